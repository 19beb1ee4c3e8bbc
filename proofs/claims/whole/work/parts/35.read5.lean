
/-! the port that the reference reads -/
def rFr (σ : dt_Mem) (Ts : List (List (Nat × List Nat))) (Ps : List Nat) : Prop := (σ 45 0 = Ts.length ∧ σ 45 1 = Ps.length ∧ σ 45 2 = 0 ∧ (∀ t tg, Ts[t]? = some tg → σ 45 (3 + t) = tg.length ∧ ∀ w wd, tg[w]? = some wd → σ 45 (18 + 40 * t + 5 * w) = wd.1 ∧ σ 45 (18 + 40 * t + 5 * w + 1) = wd.2.length ∧ ∀ (q r : Nat), wd.2[q]? = some r → σ 45 (18 + 40 * t + 5 * w + 2 + q) = r) ∧ ∀ (i k : Nat), Ps[i]? = some k → σ 45 (10 + i) = k) ∧ (∀ t, Ts.length ≤ t → t < 7 → σ 45 (3 + t) = 0) ∧ Ts.length ≤ 7 ∧ (∀ (t : Nat) (tg : List (Nat × List Nat)), Ts[t]? = some tg → tg.length ≤ 8 ∧ ∀ (w : Nat) (wd : Nat × List Nat), tg[w]? = some wd → wd.2.length ≤ 3) ∧ Ps.length ≤ 8
theorem rFr.port {σ : dt_Mem} {Ts : List (List (Nat × List Nat))} {Ps : List Nat} (h : rFr σ Ts Ps) : rPort σ 45 0 (Ts, Ps, 0) := by
  obtain ⟨⟨h1, h2, h3, h4, h5⟩, -⟩ := h
  refine ⟨h1, h2, h3, fun t tg ht => ?_, fun i k hk => ?_⟩
  · obtain ⟨a1, a2⟩ := h4 t tg ht
    refine ⟨by rw [Nat.zero_add]; exact a1, fun w wd hw => ?_⟩
    obtain ⟨b1, b2, b3⟩ := a2 w wd hw
    refine ⟨by rw [Nat.zero_add]; exact b1, by rw [Nat.zero_add]; exact b2, fun q r hq => by rw [Nat.zero_add]; exact b3 q r hq⟩
  · rw [Nat.zero_add]; exact h5 i k hk
theorem rFr.kept {σ σ' : dt_Mem} {Ts : List (List (Nat × List Nat))} {Ps : List Nat} (h : rFr σ Ts Ps) (e : ∀ k, σ' 45 k = σ 45 k) : rFr σ' Ts Ps := by
  have e : σ' 45 = σ 45 := funext e
  unfold rFr
  rw [e]
  exact h
theorem rFr.tongue {σ : dt_Mem} {Ts : List (List (Nat × List Nat))} {Ps : List Nat} (h : rFr σ Ts Ps) (hl : Ts.length < 7) : rFr (dt_up σ 45 0 ((Ts.length : Int) + 1)) (Ts ++ [[]]) Ps := by
  obtain ⟨⟨h1, h2, h3, h4, h5⟩, z, l1, l2, l3⟩ := h
  have el : (Ts ++ [([] : List (Nat × List Nat))]).length = Ts.length + 1 := List.length_append
  refine ⟨⟨by rw [dt_up_s, el]; rfl, by rw [dt_up_k (by omega)]; exact h2, by rw [dt_up_k (by omega)]; exact h3, fun t tg ht => ?_, fun i k hk => by rw [dt_up_k (by omega)]; exact h5 i k hk⟩, fun t h1 h2 => by rw [dt_up_k (by omega)]; exact z t (by omega) h2, by omega, fun t tg ht => ?_, l3⟩
  · rcases dt_ap ht with g | ⟨rfl, rfl⟩
    · obtain ⟨a1, a2⟩ := h4 t tg g
      refine ⟨by rw [dt_up_k (by omega)]; exact a1, fun w wd hw => ?_⟩
      simp (disch := omega) only [dt_up_k]
      exact a2 w wd hw
    · refine ⟨by rw [dt_up_k (by omega)]; exact z _ (Nat.le_refl _) hl, fun w wd hw => ?_⟩
      cases (show (none : Option (Nat × List Nat)) = some wd from hw)
  · rcases dt_ap ht with g | ⟨rfl, rfl⟩
    · exact l2 t tg g
    · exact ⟨Nat.zero_le _, fun w wd hw => by cases (show (none : Option (Nat × List Nat)) = some wd from hw)⟩
theorem rFr.last {σ : dt_Mem} {Ts : List (List (Nat × List Nat))} {tg : List (Nat × List Nat)} {Ps : List Nat} (h : rFr σ (Ts ++ [tg]) Ps) : σ 45 0 = ((Ts.length + 1 : Nat) : Int) ∧ Ts.length < 7 ∧ σ 45 (3 + Ts.length) = tg.length ∧ tg.length ≤ 8 := by
  obtain ⟨⟨h1, h2, h3, h4, h5⟩, z, l1, l2, l3⟩ := h
  have el : (Ts ++ [tg]).length = Ts.length + 1 := List.length_append
  have g : (Ts ++ [tg])[Ts.length]? = some tg := by rw [List.getElem?_append_right (Nat.le_refl _), Nat.sub_self]; rfl
  exact ⟨by rw [h1, el], by omega, (h4 _ _ g).1, (l2 _ _ g).1⟩
theorem rFr.read {σ : dt_Mem} {Ts : List (List (Nat × List Nat))} {tg : List (Nat × List Nat)} {Ps : List Nat} {q : Nat} {v : Int} (h : rFr σ (Ts ++ [tg]) Ps) : rFr (dt_up σ 45 (18 + 40 * Ts.length + 5 * tg.length + 2 + q) v) (Ts ++ [tg]) Ps := by
  obtain ⟨⟨h1, h2, h3, h4, h5⟩, z, l1, l2, l3⟩ := h
  have el : (Ts ++ [tg]).length = Ts.length + 1 := List.length_append
  refine ⟨⟨by rw [dt_up_k (by omega)]; exact h1, by rw [dt_up_k (by omega)]; exact h2, by rw [dt_up_k (by omega)]; exact h3, fun t tg' ht => ?_, fun i k hk => by have := dt_gl hk; rw [dt_up_k (by omega)]; exact h5 i k hk⟩, fun t h1 h2 => by rw [dt_up_k (by omega)]; exact z t h1 h2, l1, l2, l3⟩
  obtain ⟨a1, a2⟩ := h4 t tg' ht
  obtain ⟨c1, c2⟩ := l2 t tg' ht
  have gt := dt_gl ht
  have gk : t < Ts.length ∨ (t = Ts.length ∧ tg' = tg) := by
    rcases dt_ap ht with g | g
    · exact Or.inl (dt_gl g)
    · exact Or.inr g
  refine ⟨by rw [dt_up_k (by omega)]; exact a1, fun w wd hw => ?_⟩
  obtain ⟨b1, b2, b3⟩ := a2 w wd hw
  have c3 := c2 w wd hw
  have gw := dt_gl hw
  have gk2 : t < Ts.length ∨ (t = Ts.length ∧ w < tg.length) := by
    rcases gk with g | ⟨g, rfl⟩
    · exact Or.inl g
    · exact Or.inr ⟨g, gw⟩
  refine ⟨by rw [dt_up_k (by omega)]; exact b1, by rw [dt_up_k (by omega)]; exact b2, fun q' r hq => ?_⟩
  have gq := dt_gl hq
  rw [dt_up_k (by omega)]
  exact b3 q' r hq
theorem rFr.word {σ : dt_Mem} {kd : Nat} {Ts : List (List (Nat × List Nat))} {tg : List (Nat × List Nat)} {rs Ps : List Nat} (h : rFr σ (Ts ++ [tg]) Ps) (hl : tg.length < 8) (hr3 : rs.length ≤ 3) (hr : ∀ (q r : Nat), rs[q]? = some r → σ 45 (18 + 40 * Ts.length + 5 * tg.length + 2 + q) = r) : rFr (dt_up (dt_up (dt_up σ 45 (18 + 40 * Ts.length + 5 * tg.length) kd) 45 (18 + 40 * Ts.length + 5 * tg.length + 1) rs.length) 45 (3 + Ts.length) ((tg.length : Int) + 1)) (Ts ++ [tg ++ [(kd, rs)]]) Ps := by
  obtain ⟨⟨h1, h2, h3, h4, h5⟩, z, l1, l2, l3⟩ := h
  have el : (Ts ++ [tg]).length = Ts.length + 1 := List.length_append
  have el2 : (Ts ++ [tg ++ [(kd, rs)]]).length = Ts.length + 1 := List.length_append
  have el3 : (tg ++ [(kd, rs)]).length = tg.length + 1 := List.length_append
  have gg : (Ts ++ [tg])[Ts.length]? = some tg := by rw [List.getElem?_append_right (Nat.le_refl _), Nat.sub_self]; rfl
  refine ⟨⟨by simp (disch := omega) only [dt_up_k]; rw [h1, el, el2], by simp (disch := omega) only [dt_up_k]; exact h2, by simp (disch := omega) only [dt_up_k]; exact h3, fun t tg' ht => ?_, fun i k hk => by have := dt_gl hk; simp (disch := omega) only [dt_up_k]; exact h5 i k hk⟩, fun t h1 h2 => by simp (disch := omega) only [dt_up_k]; exact z t (by omega) h2, by omega, fun t tg' ht => ?_, l3⟩
  · rcases dt_ap ht with g | ⟨rfl, rfl⟩
    · have gl := dt_gl g
      have g' : (Ts ++ [tg])[t]? = some tg' := by rw [List.getElem?_append_left gl]; exact g
      obtain ⟨a1, a2⟩ := h4 t tg' g'
      obtain ⟨c1, c2⟩ := l2 t tg' g'
      refine ⟨by simp (disch := omega) only [dt_up_k]; exact a1, fun w wd hw => ?_⟩
      obtain ⟨b1, b2, b3⟩ := a2 w wd hw
      have c3 := c2 w wd hw
      have gw := dt_gl hw
      refine ⟨by simp (disch := omega) only [dt_up_k]; exact b1, by simp (disch := omega) only [dt_up_k]; exact b2, fun q r hq => ?_⟩
      have gq := dt_gl hq
      simp (disch := omega) only [dt_up_k]
      exact b3 q r hq
    · obtain ⟨a1, a2⟩ := h4 Ts.length tg gg
      obtain ⟨c1, c2⟩ := l2 Ts.length tg gg
      refine ⟨by rw [dt_up_s, el3]; rfl, fun w wd hw => ?_⟩
      rcases dt_ap hw with g | ⟨rfl, rfl⟩
      · have gw := dt_gl g
        obtain ⟨b1, b2, b3⟩ := a2 w wd g
        have c3 := c2 w wd g
        refine ⟨by simp (disch := omega) only [dt_up_k]; exact b1, by simp (disch := omega) only [dt_up_k]; exact b2, fun q r hq => ?_⟩
        have gq := dt_gl hq
        simp (disch := omega) only [dt_up_k]
        exact b3 q r hq
      · refine ⟨by simp (disch := omega) only [dt_up_k, dt_up_s], by simp (disch := omega) only [dt_up_k, dt_up_s], fun q r hq => ?_⟩
        simp (disch := omega) only [dt_up_k]
        exact hr q r hq
  · rcases dt_ap ht with g | ⟨rfl, rfl⟩
    · have gl := dt_gl g
      exact l2 t tg' (by rw [List.getElem?_append_left gl]; exact g)
    · refine ⟨by omega, fun w wd hw => ?_⟩
      rcases dt_ap hw with g | ⟨rfl, rfl⟩
      · exact (l2 Ts.length tg gg).2 w wd g
      · exact hr3
theorem rFr.person {σ : dt_Mem} {k : Nat} {Ts : List (List (Nat × List Nat))} {Ps : List Nat} (h : rFr σ Ts Ps) (hl : Ps.length < 8) : rFr (dt_up (dt_up σ 45 (10 + Ps.length) k) 45 1 ((Ps.length : Int) + 1)) Ts (Ps ++ [k]) := by
  obtain ⟨⟨h1, h2, h3, h4, h5⟩, z, l1, l2, l3⟩ := h
  have el : (Ps ++ [k]).length = Ps.length + 1 := List.length_append
  refine ⟨⟨by simp (disch := omega) only [dt_up_k]; exact h1, by rw [dt_up_s, el]; rfl, by simp (disch := omega) only [dt_up_k]; exact h3, fun t tg ht => ?_, fun i k' hk => ?_⟩, fun t h1 h2 => by simp (disch := omega) only [dt_up_k]; exact z t h1 h2, l1, l2, by omega⟩
  · have gt := dt_gl ht
    obtain ⟨a1, a2⟩ := h4 t tg ht
    refine ⟨by simp (disch := omega) only [dt_up_k]; exact a1, fun w wd hw => ?_⟩
    simp (disch := omega) only [dt_up_k]
    exact a2 w wd hw
  · rcases dt_ap hk with g | ⟨rfl, rfl⟩
    · have gi := dt_gl g
      simp (disch := omega) only [dt_up_k]
      exact h5 i k' g
    · simp (disch := omega) only [dt_up_k, dt_up_s]
/-- what a reader of the reference's may change -/
def rH (σ σ1 : dt_Mem) : Prop := ∀ b k, b ≠ 45 → (b ≠ 40 ∨ k < 12 ∨ 17 < k) → σ1 b k = σ b k
theorem rH.refl (σ : dt_Mem) : rH σ σ := fun _ _ _ _ => rfl
theorem rH.tr {σ σ1 σ2 : dt_Mem} (h : rH σ σ1) (g : rH σ1 σ2) : rH σ σ2 := fun b k h1 h2 => (g b k h1 h2).trans (h b k h1 h2)
theorem rH.up {σ σ1 : dt_Mem} (h : rH σ σ1) {k : Nat} {v : Int} : rH σ (dt_up σ1 45 k v) := fun b j h1 h2 => (dt_up_ne (Or.inl h1)).trans (h b j h1 h2)
theorem rG.h {σ σ1 : dt_Mem} (h : rG σ σ1) : rH σ σ1 := fun b k _ h2 => h b k h2
theorem rG.fr {σ σ1 : dt_Mem} {Ts : List (List (Nat × List Nat))} {Ps : List Nat} (h : rG σ σ1) (hR : rFr σ Ts Ps) : rFr σ1 Ts Ps := hR.kept (fun k => h 45 k (Or.inl (by decide)))
theorem rTk.up {σ : dt_Mem} {T : List Nat} {t : Tok} (h : rTk σ T t) {k : Nat} {v : Int} : rTk (dt_up σ 45 k v) T t := by
  obtain ⟨⟨h1, h2, h3, h4⟩, hq⟩ := h
  refine ⟨⟨?_, ?_, ?_, ?_⟩, hq⟩
  · rw [dt_up_n (by decide)]; exact h1
  · rw [dt_up_n (by decide)]; exact h2
  · rw [dt_up_n (by decide)]; exact h3
  · rw [dt_up_n (by decide)]; exact h4
theorem rL.up {σ : dt_Mem} {T : List Nat} (h : rL σ T) {k : Nat} {v : Int} : rL (dt_up σ 45 k v) T := ⟨by rw [dt_up_n (by decide)]; exact h.1, h.2.1, h.2.2.1, fun i x hx => by rw [dt_up_n (by decide)]; exact h.2.2.2 i x hx⟩
theorem rZ.up {σ : dt_Mem} {T : List Nat} {s : pR Tok} (h : rZ σ T s) {k : Nat} {v : Int} : rZ (dt_up σ 45 k v) T s := by
  obtain ⟨hL, t, ht, hs⟩ := h
  refine ⟨hL.up, t, ht.up, ?_⟩
  rw [dt_up_n (by decide), dt_up_n (by decide)]
  exact hs
theorem rZ.x {σ : dt_Mem} {T : List Nat} {e : Nat × Nat} (h : rZ σ T (.error e)) : σ 40 16 = e.1 ∧ 1 ≤ e.1 ∧ e.1 ≤ 3 ∧ σ 40 17 = e.2 := by
  obtain ⟨-, t, -, hs⟩ := h
  exact hs
def pS {α : Type} (r : pR (α × Tok)) : pR Tok := match r with
  | .ok q => .ok q.2
  | .error e => .error e
theorem sOf_in (x : Int) : dt_in32 (sOf x) := by
  unfold sOf
  repeat' split
  all_goals decide
theorem nmZ_in {T : List Nat} (hT : ∀ x ∈ T, x < 256) (s : pR Tok) : dt_in64 ((nmZ T s : Nat) : Int) := by
  have h : nmZ T s < 72057594037927936 := by
    cases s with
    | ok t => exact nmV_lt hT t
    | error e => exact (by decide : (0 : Nat) < 72057594037927936)
  exact ⟨by omega, by omega⟩
theorem pR_c {α : Type} (r : pR α) : (∃ e, r = .error e) ∨ ∃ a, r = .ok a := by
  cases r with
  | error e => exact Or.inl ⟨e, rfl⟩
  | ok a => exact Or.inr ⟨a, rfl⟩
theorem num_x {T : List Nat} {a w : Nat} {rs : List Nat} {u : Tok} (h : u.1 = 2 ∨ rs.length < a) : (∃ e, mNum T 1 255 (.ok u) = .error e ∧ pReads T a (w + 1) rs u = .error e) ∨ (u.1 = 2 ∧ mNum T 1 255 (.ok u) = .ok (tk T u.2.2) ∧ pReads T a (w + 1) rs u = pReads T a w (rs ++ [nT T u]) (tk T u.2.2) ∧ 1 ≤ nT T u ∧ nT T u < 256) := by
  by_cases h2 : u.1 = 2
  · by_cases h3 : nT T u < 1 ∨ 256 ≤ nT T u
    · refine Or.inl ⟨(2, u.2.1), ?_, pReads_b h2 h3⟩
      exact (if_neg (fun z => z h2)).trans (if_neg (by omega))
    · refine Or.inr ⟨h2, ?_, pReads_s h2 h3, by omega, by omega⟩
      exact (if_neg (fun z => z h2)).trans (if_pos (by omega))
  · refine Or.inl ⟨(1, u.2.1), if_pos h2, pReads_e h2 (by omega)⟩
theorem s_X12_readWord {ex : List dt_Shp} {σ : dt_Mem} {T : List Nat} {t : Tok} {Ts : List (List (Nat × List Nat))} {tg : List (Nat × List Nat)} {Ps : List Nat} (hZ : rZ σ T (.ok t)) (hR : rFr σ (Ts ++ [tg]) Ps) : dt_Sp mX12_readWord 4 0 0 [dt_R 40] (dt_SH ++ ex) σ (fun v sh2 σ2 => v = none ∧ sh2 = dt_SH ++ ex ∧ rH σ σ2 ∧ rZ σ2 T (pS (pWord T tg.length t)) ∧ ∀ q, pWord T tg.length t = .ok q → rFr σ2 (Ts ++ [tg ++ [q.1]]) Ps) := by
  refine dt_Sp_of (by decide) (Nat.le_of_ble_eq_true rfl) ?_
  refine dt_wfV fun hwf => ?_
  obtain ⟨e0, l7, e3, l8⟩ := hR.last
  obtain ⟨hL, ht, hf0⟩ := hZ.o
  show dt_V _ _ _ 0 0 0 [some (dt_R 40), none, none, none, none, none, none, none] [] _ _
  refine dt_aloadn dX12_readWord_0 rfl rfl ?_
  refine dt_getR dX12_readWord_1 pg_X12_22_12 rfl rfl ?_
  refine dt_iconst dX12_readWord_4 ?_
  refine dt_iald dX12_readWord_5 rfl (by first | omega | (simp (disch := omega) only [dt_up_s, dt_up_k, dt_up_n]; omega)) (by first | omega | (simp (disch := omega) only [dt_up_s, dt_up_k, dt_up_n]; omega)) (by decide) ?_
  rw [show Int.toNat 0 = 0 from rfl, e0]
  refine dt_iconst dX12_readWord_6 ?_
  refine dt_isub dX12_readWord_7 ?_
  rw [show ((Ts.length + 1 : Nat) : Int) - 1 = (Ts.length : Int) by omega]
  refine dt_istoren dX12_readWord_8 rfl (by decide) rfl ?_
  dsimp only [List.set]
  refine dt_aloadn dX12_readWord_9 rfl rfl ?_
  refine dt_getR dX12_readWord_10 pg_X12_22_12 rfl rfl ?_
  refine dt_iconst dX12_readWord_13 ?_
  refine dt_iloadn dX12_readWord_14 rfl rfl ?_
  refine dt_iadd dX12_readWord_15 ?_
  refine dt_iald dX12_readWord_16 rfl (by first | omega | (simp (disch := omega) only [dt_up_s, dt_up_k, dt_up_n]; omega)) (by first | omega | (simp (disch := omega) only [dt_up_s, dt_up_k, dt_up_n]; omega)) (by decide) ?_
  rw [show ((3 : Int) + (Ts.length : Int)).toNat = 3 + Ts.length by omega, e3]
  refine dt_bipush dX12_readWord_17 (by decide) ?_
  refine dt_cm_ne (tgt := 27) dX12_readWord_19 (by decide) (by first | assumption | exact hwf _ _ | exact dt_b32 _ | omega | exact ⟨by omega, by omega⟩ | decide | exact ⟨by simp (disch := omega) only [dt_up_s, dt_up_k, dt_up_n]; omega, by simp (disch := omega) only [dt_up_s, dt_up_k, dt_up_n]; omega⟩) (by first | assumption | exact hwf _ _ | exact dt_b32 _ | omega | exact ⟨by omega, by omega⟩ | decide | exact ⟨by simp (disch := omega) only [dt_up_s, dt_up_k, dt_up_n]; omega, by simp (disch := omega) only [dt_up_s, dt_up_k, dt_up_n]; omega⟩) (fun c1 => ?_) (fun c1 => ?_)
  · skip
    have hl8 : tg.length < 8 := by omega
    have hfr : rH σ σ := rH.refl σ
    have hM := hZ
    refine dt_aloadn dX12_readWord_27 rfl rfl ?_
    refine dt_iconst dX12_readWord_28 ?_
    refine dt_xV dX12_readWord_29 pc_X12_128 rfl (s_X12_must hM (by decide)) rfl rfl ⟨by decide, by decide⟩ rfl rfl (Nat.le_of_ble_eq_true rfl) ⟨by decide, by decide⟩ ?_
    intro vm shm σm hqm
    obtain ⟨rfl, hsm, hfm, hZm⟩ := hqm
    obtain rfl := hsm.symm
    rw [mMust_y] at hZm
    have hfr1 : rH σ σm := hfm.h
    obtain ⟨hLm, htm, h0m⟩ := hZm.o
    refine dt_wfV fun hwf => ?_
    refine dt_aloadn dX12_readWord_32 rfl rfl ?_
    refine dt_xV dX12_readWord_33 pc_X12_142 rfl (s_X12_name hZm) rfl rfl ⟨by decide, by decide⟩ rfl rfl (Nat.le_of_ble_eq_true rfl) ⟨by decide, by decide⟩ (dt_k3 ?_)
    have hb64 := nmZ_in hL.2.2.1
    refine dt_xS dX12_readWord_36 pc_X12_146 (s_X12_sortOf (hb64 _)) rfl rfl ⟨by decide, by decide⟩ (Nat.le_of_ble_eq_true rfl) ⟨by decide, by decide⟩ (dt_k3 ?_)
    rw [show sOf ((nmZ T (.ok (tk T t.2.2)) : Nat) : Int) = _ from sOf_k htm.y]
    obtain ⟨so, hso⟩ : ∃ z, z = (if (kTold T (tk T t.2.2)) = 0 then (-1000000 : Int) else (((kTold T (tk T t.2.2)) : Nat) : Int)) := ⟨_, rfl⟩
    rw [← hso]
    have hk5 := kTold_le T (tk T t.2.2)
    have hs32 : -1000000 ≤ so ∧ so ≤ 5 := by rw [hso]; split <;> omega
    refine dt_istoren dX12_readWord_39 rfl (by decide) rfl ?_
    dsimp only [List.set]
    refine dt_aloadn dX12_readWord_40 rfl rfl ?_
    refine dt_getI dX12_readWord_41 pg_X12_111_12 rfl rfl ?_
    refine dt_if_ne (tgt := 62) dX12_readWord_44 (by decide) (hwf _ _) (fun c2 => ?_) (fun c2 => ?_)
    · skip
      first | exact absurd c2 (by omega) | exact absurd c2 (by decide) | exact absurd rfl c2
    · skip
      refine dt_aloadn dX12_readWord_47 rfl rfl ?_
      refine dt_iloadn dX12_readWord_48 rfl rfl ?_
      refine dt_ldc dX12_readWord_49 pk_X12_89 ?_
      refine dt_cm_eq (tgt := 58) dX12_readWord_51 (by decide) (by first | assumption | exact hwf _ _ | exact dt_b32 _ | omega | exact ⟨by omega, by omega⟩ | decide | exact ⟨by simp (disch := omega) only [dt_up_s, dt_up_k, dt_up_n]; omega, by simp (disch := omega) only [dt_up_s, dt_up_k, dt_up_n]; omega⟩) (by first | assumption | exact hwf _ _ | exact dt_b32 _ | omega | exact ⟨by omega, by omega⟩ | decide | exact ⟨by simp (disch := omega) only [dt_up_s, dt_up_k, dt_up_n]; omega, by simp (disch := omega) only [dt_up_s, dt_up_k, dt_up_n]; omega⟩) (fun c3 => ?_) (fun c3 => ?_)
      · skip
        have hk0 : (kTold T (tk T t.2.2)) = 0 := by
          by_cases z : (kTold T (tk T t.2.2)) = 0
          · exact z
          · rw [if_neg z] at hso; omega
        have he : pWord T tg.length t = .error (1, (tk T t.2.2).2.1) := pWord_k (by omega) hk0
        refine dt_iconst dX12_readWord_58 ?_
        refine dt_xV dX12_readWord_59 pc_X12_128 rfl (s_X12_must hZm (by decide)) rfl rfl ⟨by decide, by decide⟩ rfl rfl (Nat.le_of_ble_eq_true rfl) ⟨by decide, by decide⟩ ?_
        intro vk shk σk hqk
        obtain ⟨rfl, hsk, hfk, hZk⟩ := hqk
        obtain rfl := hsk.symm
        rw [mMust_n] at hZk
        have hZx := hZk
        have hfx : rH σ σk := hfr1.tr hfk.h
        obtain ⟨x1, x2, x3, x4⟩ := hZx.x
        refine dt_iloadn dX12_readWord_62 rfl rfl ?_
        refine dt_iconst dX12_readWord_63 ?_
        refine dt_cm_ne (tgt := 71) dX12_readWord_64 (by decide) (by first | assumption | exact hwf _ _ | exact dt_b32 _ | omega | exact ⟨by omega, by omega⟩ | decide | exact ⟨by simp (disch := omega) only [dt_up_s, dt_up_k, dt_up_n]; omega, by simp (disch := omega) only [dt_up_s, dt_up_k, dt_up_n]; omega⟩) (by first | assumption | exact hwf _ _ | exact dt_b32 _ | omega | exact ⟨by omega, by omega⟩ | decide | exact ⟨by simp (disch := omega) only [dt_up_s, dt_up_k, dt_up_n]; omega, by simp (disch := omega) only [dt_up_s, dt_up_k, dt_up_n]; omega⟩) (fun c4 => ?_) (fun c4 => ?_)
        · skip
          refine dt_iconst dX12_readWord_71 ?_
          refine dt_istoren dX12_readWord_72 rfl (by decide) rfl ?_
          dsimp only [List.set]
          refine dt_iloadn dX12_readWord_73 rfl rfl ?_
          refine dt_iconst dX12_readWord_74 ?_
          refine dt_cm_ge (tgt := 82) dX12_readWord_75 (by decide) (by first | assumption | exact hwf _ _ | exact dt_b32 _ | omega | exact ⟨by omega, by omega⟩ | decide | exact ⟨by simp (disch := omega) only [dt_up_s, dt_up_k, dt_up_n]; omega, by simp (disch := omega) only [dt_up_s, dt_up_k, dt_up_n]; omega⟩) (by first | assumption | exact hwf _ _ | exact dt_b32 _ | omega | exact ⟨by omega, by omega⟩ | decide | exact ⟨by simp (disch := omega) only [dt_up_s, dt_up_k, dt_up_n]; omega, by simp (disch := omega) only [dt_up_s, dt_up_k, dt_up_n]; omega⟩) (fun c5 => ?_) (fun c5 => ?_)
          · skip
            first | exact absurd c5 (by omega) | exact absurd c5 (by decide) | exact absurd rfl c5
          · skip
            refine dt_iconst dX12_readWord_78 ?_
            refine dt_goto (tgt := 83) dX12_readWord_79 (by decide) ?_
            refine dt_istore dX12_readWord_83 (by decide) rfl ?_
            dsimp only [List.set]
            refine dt_bipush dX12_readWord_85 (by decide) ?_
            refine dt_bipush dX12_readWord_87 (by decide) ?_
            refine dt_iloadn dX12_readWord_89 rfl rfl ?_
            refine dt_imul dX12_readWord_90 ?_
            refine dt_iadd dX12_readWord_91 ?_
            refine dt_iconst dX12_readWord_92 ?_
            refine dt_wfV fun hwf => ?_
            refine dt_aloadn dX12_readWord_93 rfl rfl ?_
            refine dt_getR dX12_readWord_94 pg_X12_22_12 rfl rfl ?_
            refine dt_iconst dX12_readWord_97 ?_
            refine dt_iloadn dX12_readWord_98 rfl rfl ?_
            refine dt_iadd dX12_readWord_99 ?_
            refine dt_iald dX12_readWord_100 rfl (by first | omega | (simp (disch := omega) only [dt_up_s, dt_up_k, dt_up_n]; omega)) (by first | omega | (simp (disch := omega) only [dt_up_s, dt_up_k, dt_up_n]; omega)) (by decide) ?_
            refine dt_imul dX12_readWord_101 ?_
            refine dt_iadd dX12_readWord_102 ?_
            refine dt_istore dX12_readWord_103 (by decide) rfl ?_
            dsimp only [List.set]
            refine dt_iconst dX12_readWord_105 ?_
            refine dt_istore dX12_readWord_106 (by decide) rfl ?_
            dsimp only [List.set]
            refine dt_aloadn dX12_readWord_108 rfl rfl ?_
            refine dt_getI dX12_readWord_109 pg_X12_111_12 rfl rfl ?_
            refine dt_if_ne (tgt := 173) dX12_readWord_112 (by decide) (by first | assumption | exact hwf _ _ | exact dt_b32 _ | omega | exact ⟨by omega, by omega⟩ | decide | exact ⟨by simp (disch := omega) only [dt_up_s, dt_up_k, dt_up_n]; omega, by simp (disch := omega) only [dt_up_s, dt_up_k, dt_up_n]; omega⟩) (fun c6 => ?_) (fun c6 => ?_)
            · skip
              have hD := hZx
              have hfD := hfx
              refine dt_aloadn dX12_readWord_173 rfl rfl ?_
              refine dt_xV dX12_readWord_174 pc_X12_154 rfl (s_X12_mustEnd hD) rfl rfl ⟨by decide, by decide⟩ rfl rfl (Nat.le_of_ble_eq_true rfl) ⟨by decide, by decide⟩ ?_
              intro vz shz σz hqz
              obtain ⟨rfl, hsz, hfz, hZz⟩ := hqz
              obtain rfl := hsz.symm
              refine dt_wfV fun hwf => ?_
              obtain ⟨z1, z2, z3, z4⟩ := rZ.x hZz
              refine dt_aloadn dX12_readWord_177 rfl rfl ?_
              refine dt_getI dX12_readWord_178 pg_X12_111_12 rfl rfl ?_
              refine dt_if_ne (tgt := 215) dX12_readWord_181 (by decide) (by first | assumption | exact hwf _ _ | exact dt_b32 _ | omega | exact ⟨by omega, by omega⟩ | decide | exact ⟨by simp (disch := omega) only [dt_up_s, dt_up_k, dt_up_n]; omega, by simp (disch := omega) only [dt_up_s, dt_up_k, dt_up_n]; omega⟩) (fun c7 => ?_) (fun c7 => ?_)
              · skip
                refine dt_vret dX12_readWord_215 rfl (by decide) (by decide) ?_
                rw [he]
                exact ⟨rfl, rfl, hfD.tr hfz.h, hZz, fun q h => by cases h⟩
              · skip
                first | exact absurd c7 (by omega) | exact absurd c7 (by decide) | exact absurd rfl c7
            · skip
              first | exact absurd c6 (by omega) | exact absurd c6 (by decide) | exact absurd rfl c6
        · skip
          first | exact absurd c4 (by omega) | exact absurd c4 (by decide) | exact absurd rfl c4
      · skip
        have hk : ¬ (kTold T (tk T t.2.2)) = 0 := fun z => by rw [if_pos z] at hso; omega
        rw [if_neg hk] at hso
        refine dt_iconst dX12_readWord_54 ?_
        refine dt_goto (tgt := 59) dX12_readWord_55 (by decide) ?_
        refine dt_xV dX12_readWord_59 pc_X12_128 rfl (s_X12_must hZm (by decide)) rfl rfl ⟨by decide, by decide⟩ rfl rfl (Nat.le_of_ble_eq_true rfl) ⟨by decide, by decide⟩ ?_
        intro vk shk σk hqk
        obtain ⟨rfl, hsk, hfk, hZk⟩ := hqk
        obtain rfl := hsk.symm
        rw [mMust_y] at hZk
        have hfx : rH σ σk := hfr1.tr hfk.h
        have hRk := hfk.fr (hfm.fr hR)
        have e3k := hRk.last.2.2.1
        have hkm := kLM (kTold T (tk T t.2.2))
        refine dt_iloadn dX12_readWord_62 rfl rfl ?_
        refine dt_iconst dX12_readWord_63 ?_
        refine dt_cm_ne (tgt := 71) dX12_readWord_64 (by decide) (by first | assumption | exact hwf _ _ | exact dt_b32 _ | omega | exact ⟨by omega, by omega⟩ | decide | exact ⟨by simp (disch := omega) only [dt_up_s, dt_up_k, dt_up_n]; omega, by simp (disch := omega) only [dt_up_s, dt_up_k, dt_up_n]; omega⟩) (by first | assumption | exact hwf _ _ | exact dt_b32 _ | omega | exact ⟨by omega, by omega⟩ | decide | exact ⟨by simp (disch := omega) only [dt_up_s, dt_up_k, dt_up_n]; omega, by simp (disch := omega) only [dt_up_s, dt_up_k, dt_up_n]; omega⟩) (fun c8 => ?_) (fun c8 => ?_)
        · skip
          refine dt_iconst dX12_readWord_71 ?_
          refine dt_istoren dX12_readWord_72 rfl (by decide) rfl ?_
          dsimp only [List.set]
          refine dt_iloadn dX12_readWord_73 rfl rfl ?_
          refine dt_iconst dX12_readWord_74 ?_
          refine dt_cm_ge (tgt := 82) dX12_readWord_75 (by decide) (by first | assumption | exact hwf _ _ | exact dt_b32 _ | omega | exact ⟨by omega, by omega⟩ | decide | exact ⟨by simp (disch := omega) only [dt_up_s, dt_up_k, dt_up_n]; omega, by simp (disch := omega) only [dt_up_s, dt_up_k, dt_up_n]; omega⟩) (by first | assumption | exact hwf _ _ | exact dt_b32 _ | omega | exact ⟨by omega, by omega⟩ | decide | exact ⟨by simp (disch := omega) only [dt_up_s, dt_up_k, dt_up_n]; omega, by simp (disch := omega) only [dt_up_s, dt_up_k, dt_up_n]; omega⟩) (fun c9 => ?_) (fun c9 => ?_)
          · skip
            refine dt_iconst dX12_readWord_82 ?_
            refine dt_istore dX12_readWord_83 (by decide) rfl ?_
            dsimp only [List.set]
            refine dt_bipush dX12_readWord_85 (by decide) ?_
            refine dt_bipush dX12_readWord_87 (by decide) ?_
            refine dt_iloadn dX12_readWord_89 rfl rfl ?_
            refine dt_imul dX12_readWord_90 ?_
            refine dt_iadd dX12_readWord_91 ?_
            refine dt_iconst dX12_readWord_92 ?_
            refine dt_wfV fun hwf => ?_
            refine dt_aloadn dX12_readWord_93 rfl rfl ?_
            refine dt_getR dX12_readWord_94 pg_X12_22_12 rfl rfl ?_
            refine dt_iconst dX12_readWord_97 ?_
            refine dt_iloadn dX12_readWord_98 rfl rfl ?_
            refine dt_iadd dX12_readWord_99 ?_
            refine dt_iald dX12_readWord_100 rfl (by first | omega | (simp (disch := omega) only [dt_up_s, dt_up_k, dt_up_n]; omega)) (by first | omega | (simp (disch := omega) only [dt_up_s, dt_up_k, dt_up_n]; omega)) (by decide) ?_
            rw [show ((3 : Int) + (Ts.length : Int)).toNat = 3 + Ts.length by omega, e3k]
            refine dt_imul dX12_readWord_101 ?_
            refine dt_iadd dX12_readWord_102 ?_
            refine dt_istore dX12_readWord_103 (by decide) rfl ?_
            dsimp only [List.set]
            refine dt_iconst dX12_readWord_105 ?_
            refine dt_istore dX12_readWord_106 (by decide) rfl ?_
            dsimp only [List.set]
            have lp108 : ∀ (fu : Nat) (rs : List Nat) (u : Tok) (σ1 : dt_Mem), 4 - (rs.length : Int) < (fu : Int) → (rs.length ≤ kMost (kTold T (tk T t.2.2))) → (rZ σ1 T (.ok u)) → (rFr σ1 (Ts ++ [tg]) Ps) → (∀ (q r : Nat), rs[q]? = some r → σ1 45 (18 + 40 * Ts.length + 5 * tg.length + 2 + q) = r) → (rH σ σ1) → (pReads T (kLeast (kTold T (tk T t.2.2))) (kMost (kTold T (tk T t.2.2)) - rs.length) rs u = pReads T (kLeast (kTold T (tk T t.2.2))) (kMost (kTold T (tk T t.2.2))) [] (tk T (tk T t.2.2).2.2)) →  dt_V mX12_readWord (dt_rm 4 0 0) (dt_MC (fun v sh2 σ2 => v = none ∧ sh2 = dt_SH ++ ex ∧ rH σ σ2 ∧ rZ σ2 T (pS (pWord T tg.length t)) ∧ ∀ q, pWord T tg.length t = .ok q → rFr σ2 (Ts ++ [tg ++ [q.1]]) Ps) 0 0) 0 0 108 [some (dt_R 40), some (dt_I (Ts.length : Int)), some (dt_I so), some (dt_I ((kLeast (kTold T (tk T t.2.2)) : Nat) : Int)), some (dt_I ((kMost (kTold T (tk T t.2.2)) : Nat) : Int)), some (dt_I (18 + 40 * (Ts.length : Int) + 5 * (tg.length : Int))), some (dt_I (rs.length : Int)), none] [] (dt_SH ++ ex) σ1 := by
              intro fu
              induction fu with
              | zero =>
                intro rs u σ1 hm jl jZ jR jw jf jr
                exfalso
                omega
              | succ fu ih =>
                intro rs u σ1 hm jl jZ jR jw jf jr
                refine dt_wfV fun hwf => ?_
                obtain ⟨jL, jt, j0⟩ := jZ.o
                obtain ⟨k1, k2, k3, k4, k5⟩ := jt.ok
                obtain ⟨⟨t1, t2, t3, t4⟩, -⟩ := id jt
                obtain ⟨r1, r2, r3, r4⟩ := rS_i k3
                refine dt_aloadn dX12_readWord_108 rfl rfl ?_
                refine dt_getI dX12_readWord_109 pg_X12_111_12 rfl rfl ?_
                refine dt_if_ne (tgt := 173) dX12_readWord_112 (by decide) (by first | assumption | exact hwf _ _ | exact dt_b32 _ | omega | exact ⟨by omega, by omega⟩ | decide | exact ⟨by simp (disch := omega) only [dt_up_s, dt_up_k, dt_up_n]; omega, by simp (disch := omega) only [dt_up_s, dt_up_k, dt_up_n]; omega⟩) (fun c10 => ?_) (fun c10 => ?_)
                · skip
                  first | exact absurd c10 (by omega) | exact absurd c10 (by decide) | exact absurd rfl c10
                · skip
                  refine dt_iload dX12_readWord_115 rfl ?_
                  refine dt_iloadn dX12_readWord_117 rfl rfl ?_
                  refine dt_cm_lt (tgt := 136) dX12_readWord_118 (by decide) (by first | assumption | exact hwf _ _ | exact dt_b32 _ | omega | exact ⟨by omega, by omega⟩ | decide | exact ⟨by simp (disch := omega) only [dt_up_s, dt_up_k, dt_up_n]; omega, by simp (disch := omega) only [dt_up_s, dt_up_k, dt_up_n]; omega⟩) (by first | assumption | exact hwf _ _ | exact dt_b32 _ | omega | exact ⟨by omega, by omega⟩ | decide | exact ⟨by simp (disch := omega) only [dt_up_s, dt_up_k, dt_up_n]; omega, by simp (disch := omega) only [dt_up_s, dt_up_k, dt_up_n]; omega⟩) (fun c11 => ?_) (fun c11 => ?_)
                  · skip
                    have hnl : rs.length < kLeast (kTold T (tk T t.2.2)) := by omega
                    obtain ⟨w, hw⟩ : ∃ w, kMost (kTold T (tk T t.2.2)) - rs.length = w + 1 := ⟨kMost (kTold T (tk T t.2.2)) - rs.length - 1, by omega⟩
                    rw [hw] at jr
                    have hor : u.1 = 2 ∨ rs.length < kLeast (kTold T (tk T t.2.2)) := by first | exact Or.inl (by assumption) | exact Or.inr (by assumption)
                    refine dt_aloadn dX12_readWord_136 rfl rfl ?_
                    refine dt_iconst dX12_readWord_137 ?_
                    refine dt_sipush dX12_readWord_138 (by decide) ?_
                    refine dt_xV dX12_readWord_141 pc_X12_150 rfl (s_X12_number jZ (by decide) (by decide)) rfl rfl ⟨by decide, by decide⟩ rfl rfl (Nat.le_of_ble_eq_true rfl) ⟨by decide, by decide⟩ ?_
                    intro vn shn σn hqn
                    obtain ⟨rfl, hsn, hfn, hZn⟩ := hqn
                    obtain rfl := hsn.symm
                    refine dt_istore dX12_readWord_144 (by decide) rfl ?_
                    dsimp only [List.set]
                    refine dt_wfV fun hwf => ?_
                    refine dt_aloadn dX12_readWord_146 rfl rfl ?_
                    refine dt_getI dX12_readWord_147 pg_X12_111_12 rfl rfl ?_
                    refine dt_if_ne (tgt := 170) dX12_readWord_150 (by decide) (by first | assumption | exact hwf _ _ | exact dt_b32 _ | omega | exact ⟨by omega, by omega⟩ | decide | exact ⟨by simp (disch := omega) only [dt_up_s, dt_up_k, dt_up_n]; omega, by simp (disch := omega) only [dt_up_s, dt_up_k, dt_up_n]; omega⟩) (fun c12 => ?_) (fun c12 => ?_)
                    · skip
                      obtain ⟨e, n1, n2⟩ | ⟨n0, n1, n2, n3⟩ := num_x (T := T) (w := w) hor
                      rotate_left
                      · rw [n1] at hZn; exact absurd hZn.o.2.2 (by assumption)
                      rw [n1] at hZn
                      have he : pWord T tg.length t = .error e := pWord_r (by omega) hk (jr.symm.trans n2)
                      have hZx := hZn
                      have hfx := jf.tr hfn.h
                      obtain ⟨x1, x2, x3, x4⟩ := hZx.x
                      refine dt_goto (tgt := 108) dX12_readWord_170 (by decide) ?_
                      refine dt_aloadn dX12_readWord_108 rfl rfl ?_
                      refine dt_getI dX12_readWord_109 pg_X12_111_12 rfl rfl ?_
                      refine dt_if_ne (tgt := 173) dX12_readWord_112 (by decide) (by first | assumption | exact hwf _ _ | exact dt_b32 _ | omega | exact ⟨by omega, by omega⟩ | decide | exact ⟨by simp (disch := omega) only [dt_up_s, dt_up_k, dt_up_n]; omega, by simp (disch := omega) only [dt_up_s, dt_up_k, dt_up_n]; omega⟩) (fun c13 => ?_) (fun c13 => ?_)
                      · skip
                        have hD := hZx
                        have hfD := hfx
                        refine dt_aloadn dX12_readWord_173 rfl rfl ?_
                        refine dt_xV dX12_readWord_174 pc_X12_154 rfl (s_X12_mustEnd hD) rfl rfl ⟨by decide, by decide⟩ rfl rfl (Nat.le_of_ble_eq_true rfl) ⟨by decide, by decide⟩ ?_
                        intro vz shz σz hqz
                        obtain ⟨rfl, hsz, hfz, hZz⟩ := hqz
                        obtain rfl := hsz.symm
                        refine dt_wfV fun hwf => ?_
                        obtain ⟨z1, z2, z3, z4⟩ := rZ.x hZz
                        refine dt_aloadn dX12_readWord_177 rfl rfl ?_
                        refine dt_getI dX12_readWord_178 pg_X12_111_12 rfl rfl ?_
                        refine dt_if_ne (tgt := 215) dX12_readWord_181 (by decide) (by first | assumption | exact hwf _ _ | exact dt_b32 _ | omega | exact ⟨by omega, by omega⟩ | decide | exact ⟨by simp (disch := omega) only [dt_up_s, dt_up_k, dt_up_n]; omega, by simp (disch := omega) only [dt_up_s, dt_up_k, dt_up_n]; omega⟩) (fun c14 => ?_) (fun c14 => ?_)
                        · skip
                          refine dt_vret dX12_readWord_215 rfl (by decide) (by decide) ?_
                          rw [he]
                          exact ⟨rfl, rfl, hfD.tr hfz.h, hZz, fun q h => by cases h⟩
                        · skip
                          first | exact absurd c14 (by omega) | exact absurd c14 (by decide) | exact absurd rfl c14
                      · skip
                        first | exact absurd c13 (by omega) | exact absurd c13 (by decide) | exact absurd rfl c13
                    · skip
                      obtain ⟨e, n1, n2⟩ | ⟨n0, n1, n2, n3⟩ := num_x (T := T) (w := w) hor
                      · exfalso; rw [n1] at hZn; have := hZn.x; omega
                      rw [n1] at hZn
                      have hv : mVal T (.ok u) = nT T u := if_pos n0
                      refine dt_aloadn dX12_readWord_153 rfl rfl ?_
                      refine dt_getR dX12_readWord_154 pg_X12_22_12 rfl rfl ?_
                      refine dt_iload dX12_readWord_157 rfl ?_
                      refine dt_iconst dX12_readWord_159 ?_
                      refine dt_iadd dX12_readWord_160 ?_
                      refine dt_iload dX12_readWord_161 rfl ?_
                      refine dt_iadd dX12_readWord_163 ?_
                      refine dt_iload dX12_readWord_164 rfl ?_
                      rw [hv]
                      refine dt_wfV fun hwf => ?_
                      refine dt_iast dX12_readWord_166 rfl (by first | omega | (simp (disch := omega) only [dt_up_s, dt_up_k, dt_up_n]; omega)) (by first | omega | (simp (disch := omega) only [dt_up_s, dt_up_k, dt_up_n]; omega)) (by decide) (by first | assumption | exact hwf _ _ | exact dt_b32 _ | omega | exact ⟨by omega, by omega⟩ | decide | exact ⟨by simp (disch := omega) only [dt_up_s, dt_up_k, dt_up_n]; omega, by simp (disch := omega) only [dt_up_s, dt_up_k, dt_up_n]; omega⟩) ?_
                      rw [show (18 + 40 * (Ts.length : Int) + 5 * (tg.length : Int) + 2 + (rs.length : Int)).toNat = 18 + 40 * Ts.length + 5 * tg.length + 2 + rs.length by omega]
                      refine dt_iinc dX12_readWord_167 rfl (by decide) rfl ?_
                      dsimp only [List.set]
                      refine dt_goto (tgt := 108) dX12_readWord_170 (by decide) ?_
                      have el : (rs ++ [nT T u]).length = rs.length + 1 := List.length_append
                      have jw2 : ∀ (q r : Nat), (rs ++ [nT T u])[q]? = some r → dt_up σn 45 (18 + 40 * Ts.length + 5 * tg.length + 2 + rs.length) ((nT T u : Nat) : Int) 45 (18 + 40 * Ts.length + 5 * tg.length + 2 + q) = r := fun q r hq => by
                        rcases dt_ap hq with g | ⟨rfl, rfl⟩
                        · have := dt_gl g
                          rw [dt_up_k (by omega), hfn 45 _ (Or.inl (by decide))]
                          exact jw q r g
                        · exact dt_up_s
                      exact dt_lb (ih (rs ++ [nT T u]) (tk T u.2.2) _ (by omega) (by omega) hZn.up ((hfn.fr jR).read) jw2 ((jf.tr hfn.h).up) (by rw [show kMost (kTold T (tk T t.2.2)) - (rs ++ [nT T u]).length = w by omega]; exact n2.symm.trans jr)) ⟨rfl, rfl, rfl, rfl, rfl, rfl, (dt_ie (by omega)), trivial⟩
                  · skip
                    refine dt_iload dX12_readWord_121 rfl ?_
                    refine dt_iload dX12_readWord_123 rfl ?_
                    refine dt_cm_ge (tgt := 173) dX12_readWord_125 (by decide) (by first | assumption | exact hwf _ _ | exact dt_b32 _ | omega | exact ⟨by omega, by omega⟩ | decide | exact ⟨by simp (disch := omega) only [dt_up_s, dt_up_k, dt_up_n]; omega, by simp (disch := omega) only [dt_up_s, dt_up_k, dt_up_n]; omega⟩) (by first | assumption | exact hwf _ _ | exact dt_b32 _ | omega | exact ⟨by omega, by omega⟩ | decide | exact ⟨by simp (disch := omega) only [dt_up_s, dt_up_k, dt_up_n]; omega, by simp (disch := omega) only [dt_up_s, dt_up_k, dt_up_n]; omega⟩) (fun c15 => ?_) (fun c15 => ?_)
                    · skip
                      have hR2 : pReads T (kLeast (kTold T (tk T t.2.2))) (kMost (kTold T (tk T t.2.2))) [] (tk T (tk T t.2.2).2.2) = .ok (rs, u) := by rw [← jr, show kMost (kTold T (tk T t.2.2)) - rs.length = 0 by omega]; rfl
                      have hD := jZ
                      have hfD := jf
                      refine dt_aloadn dX12_readWord_173 rfl rfl ?_
                      refine dt_xV dX12_readWord_174 pc_X12_154 rfl (s_X12_mustEnd hD) rfl rfl ⟨by decide, by decide⟩ rfl rfl (Nat.le_of_ble_eq_true rfl) ⟨by decide, by decide⟩ ?_
                      intro vz shz σz hqz
                      obtain ⟨rfl, hsz, hfz, hZz⟩ := hqz
                      obtain rfl := hsz.symm
                      refine dt_wfV fun hwf => ?_
                      refine dt_aloadn dX12_readWord_177 rfl rfl ?_
                      refine dt_getI dX12_readWord_178 pg_X12_111_12 rfl rfl ?_
                      refine dt_if_ne (tgt := 215) dX12_readWord_181 (by decide) (by first | assumption | exact hwf _ _ | exact dt_b32 _ | omega | exact ⟨by omega, by omega⟩ | decide | exact ⟨by simp (disch := omega) only [dt_up_s, dt_up_k, dt_up_n]; omega, by simp (disch := omega) only [dt_up_s, dt_up_k, dt_up_n]; omega⟩) (fun c16 => ?_) (fun c16 => ?_)
                      · skip
                        obtain ⟨e, hsm⟩ | ⟨u2, hsm⟩ := pR_c (pSemi T u)
                        rotate_left
                        · exfalso; rw [show mEnd T (.ok u) = .ok u2 from hsm] at hZz; exact absurd hZz.o.2.2 (by assumption)
                        rw [show mEnd T (.ok u) = .error e from hsm] at hZz
                        have he : pWord T tg.length t = .error e := pWord_e (by omega) hk hR2 hsm
                        refine dt_vret dX12_readWord_215 rfl (by decide) (by decide) ?_
                        rw [he]
                        exact ⟨rfl, rfl, hfD.tr hfz.h, hZz, fun q h => by cases h⟩
                      · skip
                        obtain ⟨e, hsm⟩ | ⟨u2, hsm⟩ := pR_c (pSemi T u)
                        · exfalso; rw [show mEnd T (.ok u) = .error e from hsm] at hZz; have := hZz.x; omega
                        rw [show mEnd T (.ok u) = .ok u2 from hsm] at hZz
                        have he : pWord T tg.length t = .ok (((kTold T (tk T t.2.2)), rs), u2) := pWord_o (by omega) hk hR2 hsm
                        refine dt_aloadn dX12_readWord_184 rfl rfl ?_
                        refine dt_getR dX12_readWord_185 pg_X12_22_12 rfl rfl ?_
                        refine dt_iload dX12_readWord_188 rfl ?_
                        refine dt_iloadn dX12_readWord_190 rfl rfl ?_
                        refine dt_wfV fun hwf => ?_
                        refine dt_iast dX12_readWord_191 rfl (by first | omega | (simp (disch := omega) only [dt_up_s, dt_up_k, dt_up_n]; omega)) (by first | omega | (simp (disch := omega) only [dt_up_s, dt_up_k, dt_up_n]; omega)) (by decide) (by first | assumption | exact hwf _ _ | exact dt_b32 _ | omega | exact ⟨by omega, by omega⟩ | decide | exact ⟨by simp (disch := omega) only [dt_up_s, dt_up_k, dt_up_n]; omega, by simp (disch := omega) only [dt_up_s, dt_up_k, dt_up_n]; omega⟩) ?_
                        rw [show (18 + 40 * (Ts.length : Int) + 5 * (tg.length : Int)).toNat = 18 + 40 * Ts.length + 5 * tg.length by omega, hso]
                        refine dt_aloadn dX12_readWord_192 rfl rfl ?_
                        refine dt_getR dX12_readWord_193 pg_X12_22_12 rfl rfl ?_
                        refine dt_iload dX12_readWord_196 rfl ?_
                        refine dt_iconst dX12_readWord_198 ?_
                        refine dt_iadd dX12_readWord_199 ?_
                        refine dt_iload dX12_readWord_200 rfl ?_
                        refine dt_wfV fun hwf => ?_
                        refine dt_iast dX12_readWord_202 rfl (by first | omega | (simp (disch := omega) only [dt_up_s, dt_up_k, dt_up_n]; omega)) (by first | omega | (simp (disch := omega) only [dt_up_s, dt_up_k, dt_up_n]; omega)) (by decide) (by first | assumption | exact hwf _ _ | exact dt_b32 _ | omega | exact ⟨by omega, by omega⟩ | decide | exact ⟨by simp (disch := omega) only [dt_up_s, dt_up_k, dt_up_n]; omega, by simp (disch := omega) only [dt_up_s, dt_up_k, dt_up_n]; omega⟩) ?_
                        rw [show (18 + 40 * (Ts.length : Int) + 5 * (tg.length : Int) + 1).toNat = 18 + 40 * Ts.length + 5 * tg.length + 1 by omega]
                        refine dt_aloadn dX12_readWord_203 rfl rfl ?_
                        refine dt_getR dX12_readWord_204 pg_X12_22_12 rfl rfl ?_
                        refine dt_iconst dX12_readWord_207 ?_
                        refine dt_iloadn dX12_readWord_208 rfl rfl ?_
                        refine dt_iadd dX12_readWord_209 ?_
                        refine dt_dup2 dX12_readWord_210 ?_
                        refine dt_iald dX12_readWord_211 rfl (by first | omega | (simp (disch := omega) only [dt_up_s, dt_up_k, dt_up_n]; omega)) (by first | omega | (simp (disch := omega) only [dt_up_s, dt_up_k, dt_up_n]; omega)) (by decide) ?_
                        rw [show ((3 : Int) + (Ts.length : Int)).toNat = 3 + Ts.length by omega]
                        rw [dt_up_k (by omega), dt_up_k (by omega), (hfz.fr jR).last.2.2.1]
                        refine dt_iconst dX12_readWord_212 ?_
                        refine dt_iadd dX12_readWord_213 ?_
                        refine dt_wfV fun hwf => ?_
                        refine dt_iast dX12_readWord_214 rfl (by first | omega | (simp (disch := omega) only [dt_up_s, dt_up_k, dt_up_n]; omega)) (by first | omega | (simp (disch := omega) only [dt_up_s, dt_up_k, dt_up_n]; omega)) (by decide) (by first | assumption | exact hwf _ _ | exact dt_b32 _ | omega | exact ⟨by omega, by omega⟩ | decide | exact ⟨by simp (disch := omega) only [dt_up_s, dt_up_k, dt_up_n]; omega, by simp (disch := omega) only [dt_up_s, dt_up_k, dt_up_n]; omega⟩) ?_
                        rw [show ((3 : Int) + (Ts.length : Int)).toNat = 3 + Ts.length by omega]
                        refine dt_vret dX12_readWord_215 rfl (by decide) (by decide) ?_
                        rw [he]
                        refine ⟨rfl, rfl, (hfD.tr hfz.h).up.up.up, hZz.up.up.up, fun q h => ?_⟩
                        obtain rfl := Except.ok.inj h
                        exact (hfz.fr jR).word hl8 (by omega) (fun q r hq => by rw [hfz 45 _ (Or.inl (by decide))]; exact jw q r hq)
                    · skip
                      refine dt_aloadn dX12_readWord_128 rfl rfl ?_
                      refine dt_getI dX12_readWord_129 pg_X12_99_12 rfl rfl ?_
                      refine dt_iconst dX12_readWord_132 ?_
                      refine dt_cm_ne (tgt := 173) dX12_readWord_133 (by decide) (by first | assumption | exact hwf _ _ | exact dt_b32 _ | omega | exact ⟨by omega, by omega⟩ | decide | exact ⟨by simp (disch := omega) only [dt_up_s, dt_up_k, dt_up_n]; omega, by simp (disch := omega) only [dt_up_s, dt_up_k, dt_up_n]; omega⟩) (by first | assumption | exact hwf _ _ | exact dt_b32 _ | omega | exact ⟨by omega, by omega⟩ | decide | exact ⟨by simp (disch := omega) only [dt_up_s, dt_up_k, dt_up_n]; omega, by simp (disch := omega) only [dt_up_s, dt_up_k, dt_up_n]; omega⟩) (fun c17 => ?_) (fun c17 => ?_)
                      · skip
                        have h2f : ¬ u.1 = 2 := fun z => by have := r3.mpr z; omega
                        obtain ⟨w, hw⟩ : ∃ w, kMost (kTold T (tk T t.2.2)) - rs.length = w + 1 := ⟨kMost (kTold T (tk T t.2.2)) - rs.length - 1, by omega⟩
                        have hR2 : pReads T (kLeast (kTold T (tk T t.2.2))) (kMost (kTold T (tk T t.2.2))) [] (tk T (tk T t.2.2).2.2) = .ok (rs, u) := by rw [← jr, hw]; exact pReads_o h2f (by omega)
                        have hD := jZ
                        have hfD := jf
                        refine dt_aloadn dX12_readWord_173 rfl rfl ?_
                        refine dt_xV dX12_readWord_174 pc_X12_154 rfl (s_X12_mustEnd hD) rfl rfl ⟨by decide, by decide⟩ rfl rfl (Nat.le_of_ble_eq_true rfl) ⟨by decide, by decide⟩ ?_
                        intro vz shz σz hqz
                        obtain ⟨rfl, hsz, hfz, hZz⟩ := hqz
                        obtain rfl := hsz.symm
                        refine dt_wfV fun hwf => ?_
                        refine dt_aloadn dX12_readWord_177 rfl rfl ?_
                        refine dt_getI dX12_readWord_178 pg_X12_111_12 rfl rfl ?_
                        refine dt_if_ne (tgt := 215) dX12_readWord_181 (by decide) (by first | assumption | exact hwf _ _ | exact dt_b32 _ | omega | exact ⟨by omega, by omega⟩ | decide | exact ⟨by simp (disch := omega) only [dt_up_s, dt_up_k, dt_up_n]; omega, by simp (disch := omega) only [dt_up_s, dt_up_k, dt_up_n]; omega⟩) (fun c18 => ?_) (fun c18 => ?_)
                        · skip
                          obtain ⟨e, hsm⟩ | ⟨u2, hsm⟩ := pR_c (pSemi T u)
                          rotate_left
                          · exfalso; rw [show mEnd T (.ok u) = .ok u2 from hsm] at hZz; exact absurd hZz.o.2.2 (by assumption)
                          rw [show mEnd T (.ok u) = .error e from hsm] at hZz
                          have he : pWord T tg.length t = .error e := pWord_e (by omega) hk hR2 hsm
                          refine dt_vret dX12_readWord_215 rfl (by decide) (by decide) ?_
                          rw [he]
                          exact ⟨rfl, rfl, hfD.tr hfz.h, hZz, fun q h => by cases h⟩
                        · skip
                          obtain ⟨e, hsm⟩ | ⟨u2, hsm⟩ := pR_c (pSemi T u)
                          · exfalso; rw [show mEnd T (.ok u) = .error e from hsm] at hZz; have := hZz.x; omega
                          rw [show mEnd T (.ok u) = .ok u2 from hsm] at hZz
                          have he : pWord T tg.length t = .ok (((kTold T (tk T t.2.2)), rs), u2) := pWord_o (by omega) hk hR2 hsm
                          refine dt_aloadn dX12_readWord_184 rfl rfl ?_
                          refine dt_getR dX12_readWord_185 pg_X12_22_12 rfl rfl ?_
                          refine dt_iload dX12_readWord_188 rfl ?_
                          refine dt_iloadn dX12_readWord_190 rfl rfl ?_
                          refine dt_wfV fun hwf => ?_
                          refine dt_iast dX12_readWord_191 rfl (by first | omega | (simp (disch := omega) only [dt_up_s, dt_up_k, dt_up_n]; omega)) (by first | omega | (simp (disch := omega) only [dt_up_s, dt_up_k, dt_up_n]; omega)) (by decide) (by first | assumption | exact hwf _ _ | exact dt_b32 _ | omega | exact ⟨by omega, by omega⟩ | decide | exact ⟨by simp (disch := omega) only [dt_up_s, dt_up_k, dt_up_n]; omega, by simp (disch := omega) only [dt_up_s, dt_up_k, dt_up_n]; omega⟩) ?_
                          rw [show (18 + 40 * (Ts.length : Int) + 5 * (tg.length : Int)).toNat = 18 + 40 * Ts.length + 5 * tg.length by omega, hso]
                          refine dt_aloadn dX12_readWord_192 rfl rfl ?_
                          refine dt_getR dX12_readWord_193 pg_X12_22_12 rfl rfl ?_
                          refine dt_iload dX12_readWord_196 rfl ?_
                          refine dt_iconst dX12_readWord_198 ?_
                          refine dt_iadd dX12_readWord_199 ?_
                          refine dt_iload dX12_readWord_200 rfl ?_
                          refine dt_wfV fun hwf => ?_
                          refine dt_iast dX12_readWord_202 rfl (by first | omega | (simp (disch := omega) only [dt_up_s, dt_up_k, dt_up_n]; omega)) (by first | omega | (simp (disch := omega) only [dt_up_s, dt_up_k, dt_up_n]; omega)) (by decide) (by first | assumption | exact hwf _ _ | exact dt_b32 _ | omega | exact ⟨by omega, by omega⟩ | decide | exact ⟨by simp (disch := omega) only [dt_up_s, dt_up_k, dt_up_n]; omega, by simp (disch := omega) only [dt_up_s, dt_up_k, dt_up_n]; omega⟩) ?_
                          rw [show (18 + 40 * (Ts.length : Int) + 5 * (tg.length : Int) + 1).toNat = 18 + 40 * Ts.length + 5 * tg.length + 1 by omega]
                          refine dt_aloadn dX12_readWord_203 rfl rfl ?_
                          refine dt_getR dX12_readWord_204 pg_X12_22_12 rfl rfl ?_
                          refine dt_iconst dX12_readWord_207 ?_
                          refine dt_iloadn dX12_readWord_208 rfl rfl ?_
                          refine dt_iadd dX12_readWord_209 ?_
                          refine dt_dup2 dX12_readWord_210 ?_
                          refine dt_iald dX12_readWord_211 rfl (by first | omega | (simp (disch := omega) only [dt_up_s, dt_up_k, dt_up_n]; omega)) (by first | omega | (simp (disch := omega) only [dt_up_s, dt_up_k, dt_up_n]; omega)) (by decide) ?_
                          rw [show ((3 : Int) + (Ts.length : Int)).toNat = 3 + Ts.length by omega]
                          rw [dt_up_k (by omega), dt_up_k (by omega), (hfz.fr jR).last.2.2.1]
                          refine dt_iconst dX12_readWord_212 ?_
                          refine dt_iadd dX12_readWord_213 ?_
                          refine dt_wfV fun hwf => ?_
                          refine dt_iast dX12_readWord_214 rfl (by first | omega | (simp (disch := omega) only [dt_up_s, dt_up_k, dt_up_n]; omega)) (by first | omega | (simp (disch := omega) only [dt_up_s, dt_up_k, dt_up_n]; omega)) (by decide) (by first | assumption | exact hwf _ _ | exact dt_b32 _ | omega | exact ⟨by omega, by omega⟩ | decide | exact ⟨by simp (disch := omega) only [dt_up_s, dt_up_k, dt_up_n]; omega, by simp (disch := omega) only [dt_up_s, dt_up_k, dt_up_n]; omega⟩) ?_
                          rw [show ((3 : Int) + (Ts.length : Int)).toNat = 3 + Ts.length by omega]
                          refine dt_vret dX12_readWord_215 rfl (by decide) (by decide) ?_
                          rw [he]
                          refine ⟨rfl, rfl, (hfD.tr hfz.h).up.up.up, hZz.up.up.up, fun q h => ?_⟩
                          obtain rfl := Except.ok.inj h
                          exact (hfz.fr jR).word hl8 (by omega) (fun q r hq => by rw [hfz 45 _ (Or.inl (by decide))]; exact jw q r hq)
                      · skip
                        have h2t : u.1 = 2 := r3.mp (by omega)
                        obtain ⟨w, hw⟩ : ∃ w, kMost (kTold T (tk T t.2.2)) - rs.length = w + 1 := ⟨kMost (kTold T (tk T t.2.2)) - rs.length - 1, by omega⟩
                        rw [hw] at jr
                        have hor : u.1 = 2 ∨ rs.length < kLeast (kTold T (tk T t.2.2)) := by first | exact Or.inl (by assumption) | exact Or.inr (by assumption)
                        refine dt_aloadn dX12_readWord_136 rfl rfl ?_
                        refine dt_iconst dX12_readWord_137 ?_
                        refine dt_sipush dX12_readWord_138 (by decide) ?_
                        refine dt_xV dX12_readWord_141 pc_X12_150 rfl (s_X12_number jZ (by decide) (by decide)) rfl rfl ⟨by decide, by decide⟩ rfl rfl (Nat.le_of_ble_eq_true rfl) ⟨by decide, by decide⟩ ?_
                        intro vn shn σn hqn
                        obtain ⟨rfl, hsn, hfn, hZn⟩ := hqn
                        obtain rfl := hsn.symm
                        refine dt_istore dX12_readWord_144 (by decide) rfl ?_
                        dsimp only [List.set]
                        refine dt_wfV fun hwf => ?_
                        refine dt_aloadn dX12_readWord_146 rfl rfl ?_
                        refine dt_getI dX12_readWord_147 pg_X12_111_12 rfl rfl ?_
                        refine dt_if_ne (tgt := 170) dX12_readWord_150 (by decide) (by first | assumption | exact hwf _ _ | exact dt_b32 _ | omega | exact ⟨by omega, by omega⟩ | decide | exact ⟨by simp (disch := omega) only [dt_up_s, dt_up_k, dt_up_n]; omega, by simp (disch := omega) only [dt_up_s, dt_up_k, dt_up_n]; omega⟩) (fun c19 => ?_) (fun c19 => ?_)
                        · skip
                          obtain ⟨e, n1, n2⟩ | ⟨n0, n1, n2, n3⟩ := num_x (T := T) (w := w) hor
                          rotate_left
                          · rw [n1] at hZn; exact absurd hZn.o.2.2 (by assumption)
                          rw [n1] at hZn
                          have he : pWord T tg.length t = .error e := pWord_r (by omega) hk (jr.symm.trans n2)
                          have hZx := hZn
                          have hfx := jf.tr hfn.h
                          obtain ⟨x1, x2, x3, x4⟩ := hZx.x
                          refine dt_goto (tgt := 108) dX12_readWord_170 (by decide) ?_
                          refine dt_aloadn dX12_readWord_108 rfl rfl ?_
                          refine dt_getI dX12_readWord_109 pg_X12_111_12 rfl rfl ?_
                          refine dt_if_ne (tgt := 173) dX12_readWord_112 (by decide) (by first | assumption | exact hwf _ _ | exact dt_b32 _ | omega | exact ⟨by omega, by omega⟩ | decide | exact ⟨by simp (disch := omega) only [dt_up_s, dt_up_k, dt_up_n]; omega, by simp (disch := omega) only [dt_up_s, dt_up_k, dt_up_n]; omega⟩) (fun c20 => ?_) (fun c20 => ?_)
                          · skip
                            have hD := hZx
                            have hfD := hfx
                            refine dt_aloadn dX12_readWord_173 rfl rfl ?_
                            refine dt_xV dX12_readWord_174 pc_X12_154 rfl (s_X12_mustEnd hD) rfl rfl ⟨by decide, by decide⟩ rfl rfl (Nat.le_of_ble_eq_true rfl) ⟨by decide, by decide⟩ ?_
                            intro vz shz σz hqz
                            obtain ⟨rfl, hsz, hfz, hZz⟩ := hqz
                            obtain rfl := hsz.symm
                            refine dt_wfV fun hwf => ?_
                            obtain ⟨z1, z2, z3, z4⟩ := rZ.x hZz
                            refine dt_aloadn dX12_readWord_177 rfl rfl ?_
                            refine dt_getI dX12_readWord_178 pg_X12_111_12 rfl rfl ?_
                            refine dt_if_ne (tgt := 215) dX12_readWord_181 (by decide) (by first | assumption | exact hwf _ _ | exact dt_b32 _ | omega | exact ⟨by omega, by omega⟩ | decide | exact ⟨by simp (disch := omega) only [dt_up_s, dt_up_k, dt_up_n]; omega, by simp (disch := omega) only [dt_up_s, dt_up_k, dt_up_n]; omega⟩) (fun c21 => ?_) (fun c21 => ?_)
                            · skip
                              refine dt_vret dX12_readWord_215 rfl (by decide) (by decide) ?_
                              rw [he]
                              exact ⟨rfl, rfl, hfD.tr hfz.h, hZz, fun q h => by cases h⟩
                            · skip
                              first | exact absurd c21 (by omega) | exact absurd c21 (by decide) | exact absurd rfl c21
                          · skip
                            first | exact absurd c20 (by omega) | exact absurd c20 (by decide) | exact absurd rfl c20
                        · skip
                          obtain ⟨e, n1, n2⟩ | ⟨n0, n1, n2, n3⟩ := num_x (T := T) (w := w) hor
                          · exfalso; rw [n1] at hZn; have := hZn.x; omega
                          rw [n1] at hZn
                          have hv : mVal T (.ok u) = nT T u := if_pos n0
                          refine dt_aloadn dX12_readWord_153 rfl rfl ?_
                          refine dt_getR dX12_readWord_154 pg_X12_22_12 rfl rfl ?_
                          refine dt_iload dX12_readWord_157 rfl ?_
                          refine dt_iconst dX12_readWord_159 ?_
                          refine dt_iadd dX12_readWord_160 ?_
                          refine dt_iload dX12_readWord_161 rfl ?_
                          refine dt_iadd dX12_readWord_163 ?_
                          refine dt_iload dX12_readWord_164 rfl ?_
                          rw [hv]
                          refine dt_wfV fun hwf => ?_
                          refine dt_iast dX12_readWord_166 rfl (by first | omega | (simp (disch := omega) only [dt_up_s, dt_up_k, dt_up_n]; omega)) (by first | omega | (simp (disch := omega) only [dt_up_s, dt_up_k, dt_up_n]; omega)) (by decide) (by first | assumption | exact hwf _ _ | exact dt_b32 _ | omega | exact ⟨by omega, by omega⟩ | decide | exact ⟨by simp (disch := omega) only [dt_up_s, dt_up_k, dt_up_n]; omega, by simp (disch := omega) only [dt_up_s, dt_up_k, dt_up_n]; omega⟩) ?_
                          rw [show (18 + 40 * (Ts.length : Int) + 5 * (tg.length : Int) + 2 + (rs.length : Int)).toNat = 18 + 40 * Ts.length + 5 * tg.length + 2 + rs.length by omega]
                          refine dt_iinc dX12_readWord_167 rfl (by decide) rfl ?_
                          dsimp only [List.set]
                          refine dt_goto (tgt := 108) dX12_readWord_170 (by decide) ?_
                          have el : (rs ++ [nT T u]).length = rs.length + 1 := List.length_append
                          have jw2 : ∀ (q r : Nat), (rs ++ [nT T u])[q]? = some r → dt_up σn 45 (18 + 40 * Ts.length + 5 * tg.length + 2 + rs.length) ((nT T u : Nat) : Int) 45 (18 + 40 * Ts.length + 5 * tg.length + 2 + q) = r := fun q r hq => by
                            rcases dt_ap hq with g | ⟨rfl, rfl⟩
                            · have := dt_gl g
                              rw [dt_up_k (by omega), hfn 45 _ (Or.inl (by decide))]
                              exact jw q r g
                            · exact dt_up_s
                          exact dt_lb (ih (rs ++ [nT T u]) (tk T u.2.2) _ (by omega) (by omega) hZn.up ((hfn.fr jR).read) jw2 ((jf.tr hfn.h).up) (by rw [show kMost (kTold T (tk T t.2.2)) - (rs ++ [nT T u]).length = w by omega]; exact n2.symm.trans jr)) ⟨rfl, rfl, rfl, rfl, rfl, rfl, (dt_ie (by omega)), trivial⟩
            exact dt_lb (lp108 5 [] (tk T (tk T t.2.2).2.2) σk (by show 4 - ((0 : Nat) : Int) < _; omega) (Nat.zero_le _) hZk hRk (fun q r hq => by cases (show (none : Option Nat) = some r from hq)) hfx rfl) ⟨rfl, rfl, rfl, (dt_ie (by unfold kLeast; split <;> omega)), (dt_ie (by unfold kMost; split <;> omega)), rfl, (dt_ie rfl), trivial⟩
          · skip
            refine dt_iconst dX12_readWord_78 ?_
            refine dt_goto (tgt := 83) dX12_readWord_79 (by decide) ?_
            refine dt_istore dX12_readWord_83 (by decide) rfl ?_
            dsimp only [List.set]
            refine dt_bipush dX12_readWord_85 (by decide) ?_
            refine dt_bipush dX12_readWord_87 (by decide) ?_
            refine dt_iloadn dX12_readWord_89 rfl rfl ?_
            refine dt_imul dX12_readWord_90 ?_
            refine dt_iadd dX12_readWord_91 ?_
            refine dt_iconst dX12_readWord_92 ?_
            refine dt_wfV fun hwf => ?_
            refine dt_aloadn dX12_readWord_93 rfl rfl ?_
            refine dt_getR dX12_readWord_94 pg_X12_22_12 rfl rfl ?_
            refine dt_iconst dX12_readWord_97 ?_
            refine dt_iloadn dX12_readWord_98 rfl rfl ?_
            refine dt_iadd dX12_readWord_99 ?_
            refine dt_iald dX12_readWord_100 rfl (by first | omega | (simp (disch := omega) only [dt_up_s, dt_up_k, dt_up_n]; omega)) (by first | omega | (simp (disch := omega) only [dt_up_s, dt_up_k, dt_up_n]; omega)) (by decide) ?_
            rw [show ((3 : Int) + (Ts.length : Int)).toNat = 3 + Ts.length by omega, e3k]
            refine dt_imul dX12_readWord_101 ?_
            refine dt_iadd dX12_readWord_102 ?_
            refine dt_istore dX12_readWord_103 (by decide) rfl ?_
            dsimp only [List.set]
            refine dt_iconst dX12_readWord_105 ?_
            refine dt_istore dX12_readWord_106 (by decide) rfl ?_
            dsimp only [List.set]
            have lp108 : ∀ (fu : Nat) (rs : List Nat) (u : Tok) (σ1 : dt_Mem), 4 - (rs.length : Int) < (fu : Int) → (rs.length ≤ kMost (kTold T (tk T t.2.2))) → (rZ σ1 T (.ok u)) → (rFr σ1 (Ts ++ [tg]) Ps) → (∀ (q r : Nat), rs[q]? = some r → σ1 45 (18 + 40 * Ts.length + 5 * tg.length + 2 + q) = r) → (rH σ σ1) → (pReads T (kLeast (kTold T (tk T t.2.2))) (kMost (kTold T (tk T t.2.2)) - rs.length) rs u = pReads T (kLeast (kTold T (tk T t.2.2))) (kMost (kTold T (tk T t.2.2))) [] (tk T (tk T t.2.2).2.2)) →  dt_V mX12_readWord (dt_rm 4 0 0) (dt_MC (fun v sh2 σ2 => v = none ∧ sh2 = dt_SH ++ ex ∧ rH σ σ2 ∧ rZ σ2 T (pS (pWord T tg.length t)) ∧ ∀ q, pWord T tg.length t = .ok q → rFr σ2 (Ts ++ [tg ++ [q.1]]) Ps) 0 0) 0 0 108 [some (dt_R 40), some (dt_I (Ts.length : Int)), some (dt_I so), some (dt_I ((kLeast (kTold T (tk T t.2.2)) : Nat) : Int)), some (dt_I ((kMost (kTold T (tk T t.2.2)) : Nat) : Int)), some (dt_I (18 + 40 * (Ts.length : Int) + 5 * (tg.length : Int))), some (dt_I (rs.length : Int)), none] [] (dt_SH ++ ex) σ1 := by
              intro fu
              induction fu with
              | zero =>
                intro rs u σ1 hm jl jZ jR jw jf jr
                exfalso
                omega
              | succ fu ih =>
                intro rs u σ1 hm jl jZ jR jw jf jr
                refine dt_wfV fun hwf => ?_
                obtain ⟨jL, jt, j0⟩ := jZ.o
                obtain ⟨k1, k2, k3, k4, k5⟩ := jt.ok
                obtain ⟨⟨t1, t2, t3, t4⟩, -⟩ := id jt
                obtain ⟨r1, r2, r3, r4⟩ := rS_i k3
                refine dt_aloadn dX12_readWord_108 rfl rfl ?_
                refine dt_getI dX12_readWord_109 pg_X12_111_12 rfl rfl ?_
                refine dt_if_ne (tgt := 173) dX12_readWord_112 (by decide) (by first | assumption | exact hwf _ _ | exact dt_b32 _ | omega | exact ⟨by omega, by omega⟩ | decide | exact ⟨by simp (disch := omega) only [dt_up_s, dt_up_k, dt_up_n]; omega, by simp (disch := omega) only [dt_up_s, dt_up_k, dt_up_n]; omega⟩) (fun c22 => ?_) (fun c22 => ?_)
                · skip
                  first | exact absurd c22 (by omega) | exact absurd c22 (by decide) | exact absurd rfl c22
                · skip
                  refine dt_iload dX12_readWord_115 rfl ?_
                  refine dt_iloadn dX12_readWord_117 rfl rfl ?_
                  refine dt_cm_lt (tgt := 136) dX12_readWord_118 (by decide) (by first | assumption | exact hwf _ _ | exact dt_b32 _ | omega | exact ⟨by omega, by omega⟩ | decide | exact ⟨by simp (disch := omega) only [dt_up_s, dt_up_k, dt_up_n]; omega, by simp (disch := omega) only [dt_up_s, dt_up_k, dt_up_n]; omega⟩) (by first | assumption | exact hwf _ _ | exact dt_b32 _ | omega | exact ⟨by omega, by omega⟩ | decide | exact ⟨by simp (disch := omega) only [dt_up_s, dt_up_k, dt_up_n]; omega, by simp (disch := omega) only [dt_up_s, dt_up_k, dt_up_n]; omega⟩) (fun c23 => ?_) (fun c23 => ?_)
                  · skip
                    have hnl : rs.length < kLeast (kTold T (tk T t.2.2)) := by omega
                    obtain ⟨w, hw⟩ : ∃ w, kMost (kTold T (tk T t.2.2)) - rs.length = w + 1 := ⟨kMost (kTold T (tk T t.2.2)) - rs.length - 1, by omega⟩
                    rw [hw] at jr
                    have hor : u.1 = 2 ∨ rs.length < kLeast (kTold T (tk T t.2.2)) := by first | exact Or.inl (by assumption) | exact Or.inr (by assumption)
                    refine dt_aloadn dX12_readWord_136 rfl rfl ?_
                    refine dt_iconst dX12_readWord_137 ?_
                    refine dt_sipush dX12_readWord_138 (by decide) ?_
                    refine dt_xV dX12_readWord_141 pc_X12_150 rfl (s_X12_number jZ (by decide) (by decide)) rfl rfl ⟨by decide, by decide⟩ rfl rfl (Nat.le_of_ble_eq_true rfl) ⟨by decide, by decide⟩ ?_
                    intro vn shn σn hqn
                    obtain ⟨rfl, hsn, hfn, hZn⟩ := hqn
                    obtain rfl := hsn.symm
                    refine dt_istore dX12_readWord_144 (by decide) rfl ?_
                    dsimp only [List.set]
                    refine dt_wfV fun hwf => ?_
                    refine dt_aloadn dX12_readWord_146 rfl rfl ?_
                    refine dt_getI dX12_readWord_147 pg_X12_111_12 rfl rfl ?_
                    refine dt_if_ne (tgt := 170) dX12_readWord_150 (by decide) (by first | assumption | exact hwf _ _ | exact dt_b32 _ | omega | exact ⟨by omega, by omega⟩ | decide | exact ⟨by simp (disch := omega) only [dt_up_s, dt_up_k, dt_up_n]; omega, by simp (disch := omega) only [dt_up_s, dt_up_k, dt_up_n]; omega⟩) (fun c24 => ?_) (fun c24 => ?_)
                    · skip
                      obtain ⟨e, n1, n2⟩ | ⟨n0, n1, n2, n3⟩ := num_x (T := T) (w := w) hor
                      rotate_left
                      · rw [n1] at hZn; exact absurd hZn.o.2.2 (by assumption)
                      rw [n1] at hZn
                      have he : pWord T tg.length t = .error e := pWord_r (by omega) hk (jr.symm.trans n2)
                      have hZx := hZn
                      have hfx := jf.tr hfn.h
                      obtain ⟨x1, x2, x3, x4⟩ := hZx.x
                      refine dt_goto (tgt := 108) dX12_readWord_170 (by decide) ?_
                      refine dt_aloadn dX12_readWord_108 rfl rfl ?_
                      refine dt_getI dX12_readWord_109 pg_X12_111_12 rfl rfl ?_
                      refine dt_if_ne (tgt := 173) dX12_readWord_112 (by decide) (by first | assumption | exact hwf _ _ | exact dt_b32 _ | omega | exact ⟨by omega, by omega⟩ | decide | exact ⟨by simp (disch := omega) only [dt_up_s, dt_up_k, dt_up_n]; omega, by simp (disch := omega) only [dt_up_s, dt_up_k, dt_up_n]; omega⟩) (fun c25 => ?_) (fun c25 => ?_)
                      · skip
                        have hD := hZx
                        have hfD := hfx
                        refine dt_aloadn dX12_readWord_173 rfl rfl ?_
                        refine dt_xV dX12_readWord_174 pc_X12_154 rfl (s_X12_mustEnd hD) rfl rfl ⟨by decide, by decide⟩ rfl rfl (Nat.le_of_ble_eq_true rfl) ⟨by decide, by decide⟩ ?_
                        intro vz shz σz hqz
                        obtain ⟨rfl, hsz, hfz, hZz⟩ := hqz
                        obtain rfl := hsz.symm
                        refine dt_wfV fun hwf => ?_
                        obtain ⟨z1, z2, z3, z4⟩ := rZ.x hZz
                        refine dt_aloadn dX12_readWord_177 rfl rfl ?_
                        refine dt_getI dX12_readWord_178 pg_X12_111_12 rfl rfl ?_
                        refine dt_if_ne (tgt := 215) dX12_readWord_181 (by decide) (by first | assumption | exact hwf _ _ | exact dt_b32 _ | omega | exact ⟨by omega, by omega⟩ | decide | exact ⟨by simp (disch := omega) only [dt_up_s, dt_up_k, dt_up_n]; omega, by simp (disch := omega) only [dt_up_s, dt_up_k, dt_up_n]; omega⟩) (fun c26 => ?_) (fun c26 => ?_)
                        · skip
                          refine dt_vret dX12_readWord_215 rfl (by decide) (by decide) ?_
                          rw [he]
                          exact ⟨rfl, rfl, hfD.tr hfz.h, hZz, fun q h => by cases h⟩
                        · skip
                          first | exact absurd c26 (by omega) | exact absurd c26 (by decide) | exact absurd rfl c26
                      · skip
                        first | exact absurd c25 (by omega) | exact absurd c25 (by decide) | exact absurd rfl c25
                    · skip
                      obtain ⟨e, n1, n2⟩ | ⟨n0, n1, n2, n3⟩ := num_x (T := T) (w := w) hor
                      · exfalso; rw [n1] at hZn; have := hZn.x; omega
                      rw [n1] at hZn
                      have hv : mVal T (.ok u) = nT T u := if_pos n0
                      refine dt_aloadn dX12_readWord_153 rfl rfl ?_
                      refine dt_getR dX12_readWord_154 pg_X12_22_12 rfl rfl ?_
                      refine dt_iload dX12_readWord_157 rfl ?_
                      refine dt_iconst dX12_readWord_159 ?_
                      refine dt_iadd dX12_readWord_160 ?_
                      refine dt_iload dX12_readWord_161 rfl ?_
                      refine dt_iadd dX12_readWord_163 ?_
                      refine dt_iload dX12_readWord_164 rfl ?_
                      rw [hv]
                      refine dt_wfV fun hwf => ?_
                      refine dt_iast dX12_readWord_166 rfl (by first | omega | (simp (disch := omega) only [dt_up_s, dt_up_k, dt_up_n]; omega)) (by first | omega | (simp (disch := omega) only [dt_up_s, dt_up_k, dt_up_n]; omega)) (by decide) (by first | assumption | exact hwf _ _ | exact dt_b32 _ | omega | exact ⟨by omega, by omega⟩ | decide | exact ⟨by simp (disch := omega) only [dt_up_s, dt_up_k, dt_up_n]; omega, by simp (disch := omega) only [dt_up_s, dt_up_k, dt_up_n]; omega⟩) ?_
                      rw [show (18 + 40 * (Ts.length : Int) + 5 * (tg.length : Int) + 2 + (rs.length : Int)).toNat = 18 + 40 * Ts.length + 5 * tg.length + 2 + rs.length by omega]
                      refine dt_iinc dX12_readWord_167 rfl (by decide) rfl ?_
                      dsimp only [List.set]
                      refine dt_goto (tgt := 108) dX12_readWord_170 (by decide) ?_
                      have el : (rs ++ [nT T u]).length = rs.length + 1 := List.length_append
                      have jw2 : ∀ (q r : Nat), (rs ++ [nT T u])[q]? = some r → dt_up σn 45 (18 + 40 * Ts.length + 5 * tg.length + 2 + rs.length) ((nT T u : Nat) : Int) 45 (18 + 40 * Ts.length + 5 * tg.length + 2 + q) = r := fun q r hq => by
                        rcases dt_ap hq with g | ⟨rfl, rfl⟩
                        · have := dt_gl g
                          rw [dt_up_k (by omega), hfn 45 _ (Or.inl (by decide))]
                          exact jw q r g
                        · exact dt_up_s
                      exact dt_lb (ih (rs ++ [nT T u]) (tk T u.2.2) _ (by omega) (by omega) hZn.up ((hfn.fr jR).read) jw2 ((jf.tr hfn.h).up) (by rw [show kMost (kTold T (tk T t.2.2)) - (rs ++ [nT T u]).length = w by omega]; exact n2.symm.trans jr)) ⟨rfl, rfl, rfl, rfl, rfl, rfl, (dt_ie (by omega)), trivial⟩
                  · skip
                    refine dt_iload dX12_readWord_121 rfl ?_
                    refine dt_iload dX12_readWord_123 rfl ?_
                    refine dt_cm_ge (tgt := 173) dX12_readWord_125 (by decide) (by first | assumption | exact hwf _ _ | exact dt_b32 _ | omega | exact ⟨by omega, by omega⟩ | decide | exact ⟨by simp (disch := omega) only [dt_up_s, dt_up_k, dt_up_n]; omega, by simp (disch := omega) only [dt_up_s, dt_up_k, dt_up_n]; omega⟩) (by first | assumption | exact hwf _ _ | exact dt_b32 _ | omega | exact ⟨by omega, by omega⟩ | decide | exact ⟨by simp (disch := omega) only [dt_up_s, dt_up_k, dt_up_n]; omega, by simp (disch := omega) only [dt_up_s, dt_up_k, dt_up_n]; omega⟩) (fun c27 => ?_) (fun c27 => ?_)
                    · skip
                      have hR2 : pReads T (kLeast (kTold T (tk T t.2.2))) (kMost (kTold T (tk T t.2.2))) [] (tk T (tk T t.2.2).2.2) = .ok (rs, u) := by rw [← jr, show kMost (kTold T (tk T t.2.2)) - rs.length = 0 by omega]; rfl
                      have hD := jZ
                      have hfD := jf
                      refine dt_aloadn dX12_readWord_173 rfl rfl ?_
                      refine dt_xV dX12_readWord_174 pc_X12_154 rfl (s_X12_mustEnd hD) rfl rfl ⟨by decide, by decide⟩ rfl rfl (Nat.le_of_ble_eq_true rfl) ⟨by decide, by decide⟩ ?_
                      intro vz shz σz hqz
                      obtain ⟨rfl, hsz, hfz, hZz⟩ := hqz
                      obtain rfl := hsz.symm
                      refine dt_wfV fun hwf => ?_
                      refine dt_aloadn dX12_readWord_177 rfl rfl ?_
                      refine dt_getI dX12_readWord_178 pg_X12_111_12 rfl rfl ?_
                      refine dt_if_ne (tgt := 215) dX12_readWord_181 (by decide) (by first | assumption | exact hwf _ _ | exact dt_b32 _ | omega | exact ⟨by omega, by omega⟩ | decide | exact ⟨by simp (disch := omega) only [dt_up_s, dt_up_k, dt_up_n]; omega, by simp (disch := omega) only [dt_up_s, dt_up_k, dt_up_n]; omega⟩) (fun c28 => ?_) (fun c28 => ?_)
                      · skip
                        obtain ⟨e, hsm⟩ | ⟨u2, hsm⟩ := pR_c (pSemi T u)
                        rotate_left
                        · exfalso; rw [show mEnd T (.ok u) = .ok u2 from hsm] at hZz; exact absurd hZz.o.2.2 (by assumption)
                        rw [show mEnd T (.ok u) = .error e from hsm] at hZz
                        have he : pWord T tg.length t = .error e := pWord_e (by omega) hk hR2 hsm
                        refine dt_vret dX12_readWord_215 rfl (by decide) (by decide) ?_
                        rw [he]
                        exact ⟨rfl, rfl, hfD.tr hfz.h, hZz, fun q h => by cases h⟩
                      · skip
                        obtain ⟨e, hsm⟩ | ⟨u2, hsm⟩ := pR_c (pSemi T u)
                        · exfalso; rw [show mEnd T (.ok u) = .error e from hsm] at hZz; have := hZz.x; omega
                        rw [show mEnd T (.ok u) = .ok u2 from hsm] at hZz
                        have he : pWord T tg.length t = .ok (((kTold T (tk T t.2.2)), rs), u2) := pWord_o (by omega) hk hR2 hsm
                        refine dt_aloadn dX12_readWord_184 rfl rfl ?_
                        refine dt_getR dX12_readWord_185 pg_X12_22_12 rfl rfl ?_
                        refine dt_iload dX12_readWord_188 rfl ?_
                        refine dt_iloadn dX12_readWord_190 rfl rfl ?_
                        refine dt_wfV fun hwf => ?_
                        refine dt_iast dX12_readWord_191 rfl (by first | omega | (simp (disch := omega) only [dt_up_s, dt_up_k, dt_up_n]; omega)) (by first | omega | (simp (disch := omega) only [dt_up_s, dt_up_k, dt_up_n]; omega)) (by decide) (by first | assumption | exact hwf _ _ | exact dt_b32 _ | omega | exact ⟨by omega, by omega⟩ | decide | exact ⟨by simp (disch := omega) only [dt_up_s, dt_up_k, dt_up_n]; omega, by simp (disch := omega) only [dt_up_s, dt_up_k, dt_up_n]; omega⟩) ?_
                        rw [show (18 + 40 * (Ts.length : Int) + 5 * (tg.length : Int)).toNat = 18 + 40 * Ts.length + 5 * tg.length by omega, hso]
                        refine dt_aloadn dX12_readWord_192 rfl rfl ?_
                        refine dt_getR dX12_readWord_193 pg_X12_22_12 rfl rfl ?_
                        refine dt_iload dX12_readWord_196 rfl ?_
                        refine dt_iconst dX12_readWord_198 ?_
                        refine dt_iadd dX12_readWord_199 ?_
                        refine dt_iload dX12_readWord_200 rfl ?_
                        refine dt_wfV fun hwf => ?_
                        refine dt_iast dX12_readWord_202 rfl (by first | omega | (simp (disch := omega) only [dt_up_s, dt_up_k, dt_up_n]; omega)) (by first | omega | (simp (disch := omega) only [dt_up_s, dt_up_k, dt_up_n]; omega)) (by decide) (by first | assumption | exact hwf _ _ | exact dt_b32 _ | omega | exact ⟨by omega, by omega⟩ | decide | exact ⟨by simp (disch := omega) only [dt_up_s, dt_up_k, dt_up_n]; omega, by simp (disch := omega) only [dt_up_s, dt_up_k, dt_up_n]; omega⟩) ?_
                        rw [show (18 + 40 * (Ts.length : Int) + 5 * (tg.length : Int) + 1).toNat = 18 + 40 * Ts.length + 5 * tg.length + 1 by omega]
                        refine dt_aloadn dX12_readWord_203 rfl rfl ?_
                        refine dt_getR dX12_readWord_204 pg_X12_22_12 rfl rfl ?_
                        refine dt_iconst dX12_readWord_207 ?_
                        refine dt_iloadn dX12_readWord_208 rfl rfl ?_
                        refine dt_iadd dX12_readWord_209 ?_
                        refine dt_dup2 dX12_readWord_210 ?_
                        refine dt_iald dX12_readWord_211 rfl (by first | omega | (simp (disch := omega) only [dt_up_s, dt_up_k, dt_up_n]; omega)) (by first | omega | (simp (disch := omega) only [dt_up_s, dt_up_k, dt_up_n]; omega)) (by decide) ?_
                        rw [show ((3 : Int) + (Ts.length : Int)).toNat = 3 + Ts.length by omega]
                        rw [dt_up_k (by omega), dt_up_k (by omega), (hfz.fr jR).last.2.2.1]
                        refine dt_iconst dX12_readWord_212 ?_
                        refine dt_iadd dX12_readWord_213 ?_
                        refine dt_wfV fun hwf => ?_
                        refine dt_iast dX12_readWord_214 rfl (by first | omega | (simp (disch := omega) only [dt_up_s, dt_up_k, dt_up_n]; omega)) (by first | omega | (simp (disch := omega) only [dt_up_s, dt_up_k, dt_up_n]; omega)) (by decide) (by first | assumption | exact hwf _ _ | exact dt_b32 _ | omega | exact ⟨by omega, by omega⟩ | decide | exact ⟨by simp (disch := omega) only [dt_up_s, dt_up_k, dt_up_n]; omega, by simp (disch := omega) only [dt_up_s, dt_up_k, dt_up_n]; omega⟩) ?_
                        rw [show ((3 : Int) + (Ts.length : Int)).toNat = 3 + Ts.length by omega]
                        refine dt_vret dX12_readWord_215 rfl (by decide) (by decide) ?_
                        rw [he]
                        refine ⟨rfl, rfl, (hfD.tr hfz.h).up.up.up, hZz.up.up.up, fun q h => ?_⟩
                        obtain rfl := Except.ok.inj h
                        exact (hfz.fr jR).word hl8 (by omega) (fun q r hq => by rw [hfz 45 _ (Or.inl (by decide))]; exact jw q r hq)
                    · skip
                      refine dt_aloadn dX12_readWord_128 rfl rfl ?_
                      refine dt_getI dX12_readWord_129 pg_X12_99_12 rfl rfl ?_
                      refine dt_iconst dX12_readWord_132 ?_
                      refine dt_cm_ne (tgt := 173) dX12_readWord_133 (by decide) (by first | assumption | exact hwf _ _ | exact dt_b32 _ | omega | exact ⟨by omega, by omega⟩ | decide | exact ⟨by simp (disch := omega) only [dt_up_s, dt_up_k, dt_up_n]; omega, by simp (disch := omega) only [dt_up_s, dt_up_k, dt_up_n]; omega⟩) (by first | assumption | exact hwf _ _ | exact dt_b32 _ | omega | exact ⟨by omega, by omega⟩ | decide | exact ⟨by simp (disch := omega) only [dt_up_s, dt_up_k, dt_up_n]; omega, by simp (disch := omega) only [dt_up_s, dt_up_k, dt_up_n]; omega⟩) (fun c29 => ?_) (fun c29 => ?_)
                      · skip
                        have h2f : ¬ u.1 = 2 := fun z => by have := r3.mpr z; omega
                        obtain ⟨w, hw⟩ : ∃ w, kMost (kTold T (tk T t.2.2)) - rs.length = w + 1 := ⟨kMost (kTold T (tk T t.2.2)) - rs.length - 1, by omega⟩
                        have hR2 : pReads T (kLeast (kTold T (tk T t.2.2))) (kMost (kTold T (tk T t.2.2))) [] (tk T (tk T t.2.2).2.2) = .ok (rs, u) := by rw [← jr, hw]; exact pReads_o h2f (by omega)
                        have hD := jZ
                        have hfD := jf
                        refine dt_aloadn dX12_readWord_173 rfl rfl ?_
                        refine dt_xV dX12_readWord_174 pc_X12_154 rfl (s_X12_mustEnd hD) rfl rfl ⟨by decide, by decide⟩ rfl rfl (Nat.le_of_ble_eq_true rfl) ⟨by decide, by decide⟩ ?_
                        intro vz shz σz hqz
                        obtain ⟨rfl, hsz, hfz, hZz⟩ := hqz
                        obtain rfl := hsz.symm
                        refine dt_wfV fun hwf => ?_
                        refine dt_aloadn dX12_readWord_177 rfl rfl ?_
                        refine dt_getI dX12_readWord_178 pg_X12_111_12 rfl rfl ?_
                        refine dt_if_ne (tgt := 215) dX12_readWord_181 (by decide) (by first | assumption | exact hwf _ _ | exact dt_b32 _ | omega | exact ⟨by omega, by omega⟩ | decide | exact ⟨by simp (disch := omega) only [dt_up_s, dt_up_k, dt_up_n]; omega, by simp (disch := omega) only [dt_up_s, dt_up_k, dt_up_n]; omega⟩) (fun c30 => ?_) (fun c30 => ?_)
                        · skip
                          obtain ⟨e, hsm⟩ | ⟨u2, hsm⟩ := pR_c (pSemi T u)
                          rotate_left
                          · exfalso; rw [show mEnd T (.ok u) = .ok u2 from hsm] at hZz; exact absurd hZz.o.2.2 (by assumption)
                          rw [show mEnd T (.ok u) = .error e from hsm] at hZz
                          have he : pWord T tg.length t = .error e := pWord_e (by omega) hk hR2 hsm
                          refine dt_vret dX12_readWord_215 rfl (by decide) (by decide) ?_
                          rw [he]
                          exact ⟨rfl, rfl, hfD.tr hfz.h, hZz, fun q h => by cases h⟩
                        · skip
                          obtain ⟨e, hsm⟩ | ⟨u2, hsm⟩ := pR_c (pSemi T u)
                          · exfalso; rw [show mEnd T (.ok u) = .error e from hsm] at hZz; have := hZz.x; omega
                          rw [show mEnd T (.ok u) = .ok u2 from hsm] at hZz
                          have he : pWord T tg.length t = .ok (((kTold T (tk T t.2.2)), rs), u2) := pWord_o (by omega) hk hR2 hsm
                          refine dt_aloadn dX12_readWord_184 rfl rfl ?_
                          refine dt_getR dX12_readWord_185 pg_X12_22_12 rfl rfl ?_
                          refine dt_iload dX12_readWord_188 rfl ?_
                          refine dt_iloadn dX12_readWord_190 rfl rfl ?_
                          refine dt_wfV fun hwf => ?_
                          refine dt_iast dX12_readWord_191 rfl (by first | omega | (simp (disch := omega) only [dt_up_s, dt_up_k, dt_up_n]; omega)) (by first | omega | (simp (disch := omega) only [dt_up_s, dt_up_k, dt_up_n]; omega)) (by decide) (by first | assumption | exact hwf _ _ | exact dt_b32 _ | omega | exact ⟨by omega, by omega⟩ | decide | exact ⟨by simp (disch := omega) only [dt_up_s, dt_up_k, dt_up_n]; omega, by simp (disch := omega) only [dt_up_s, dt_up_k, dt_up_n]; omega⟩) ?_
                          rw [show (18 + 40 * (Ts.length : Int) + 5 * (tg.length : Int)).toNat = 18 + 40 * Ts.length + 5 * tg.length by omega, hso]
                          refine dt_aloadn dX12_readWord_192 rfl rfl ?_
                          refine dt_getR dX12_readWord_193 pg_X12_22_12 rfl rfl ?_
                          refine dt_iload dX12_readWord_196 rfl ?_
                          refine dt_iconst dX12_readWord_198 ?_
                          refine dt_iadd dX12_readWord_199 ?_
                          refine dt_iload dX12_readWord_200 rfl ?_
                          refine dt_wfV fun hwf => ?_
                          refine dt_iast dX12_readWord_202 rfl (by first | omega | (simp (disch := omega) only [dt_up_s, dt_up_k, dt_up_n]; omega)) (by first | omega | (simp (disch := omega) only [dt_up_s, dt_up_k, dt_up_n]; omega)) (by decide) (by first | assumption | exact hwf _ _ | exact dt_b32 _ | omega | exact ⟨by omega, by omega⟩ | decide | exact ⟨by simp (disch := omega) only [dt_up_s, dt_up_k, dt_up_n]; omega, by simp (disch := omega) only [dt_up_s, dt_up_k, dt_up_n]; omega⟩) ?_
                          rw [show (18 + 40 * (Ts.length : Int) + 5 * (tg.length : Int) + 1).toNat = 18 + 40 * Ts.length + 5 * tg.length + 1 by omega]
                          refine dt_aloadn dX12_readWord_203 rfl rfl ?_
                          refine dt_getR dX12_readWord_204 pg_X12_22_12 rfl rfl ?_
                          refine dt_iconst dX12_readWord_207 ?_
                          refine dt_iloadn dX12_readWord_208 rfl rfl ?_
                          refine dt_iadd dX12_readWord_209 ?_
                          refine dt_dup2 dX12_readWord_210 ?_
                          refine dt_iald dX12_readWord_211 rfl (by first | omega | (simp (disch := omega) only [dt_up_s, dt_up_k, dt_up_n]; omega)) (by first | omega | (simp (disch := omega) only [dt_up_s, dt_up_k, dt_up_n]; omega)) (by decide) ?_
                          rw [show ((3 : Int) + (Ts.length : Int)).toNat = 3 + Ts.length by omega]
                          rw [dt_up_k (by omega), dt_up_k (by omega), (hfz.fr jR).last.2.2.1]
                          refine dt_iconst dX12_readWord_212 ?_
                          refine dt_iadd dX12_readWord_213 ?_
                          refine dt_wfV fun hwf => ?_
                          refine dt_iast dX12_readWord_214 rfl (by first | omega | (simp (disch := omega) only [dt_up_s, dt_up_k, dt_up_n]; omega)) (by first | omega | (simp (disch := omega) only [dt_up_s, dt_up_k, dt_up_n]; omega)) (by decide) (by first | assumption | exact hwf _ _ | exact dt_b32 _ | omega | exact ⟨by omega, by omega⟩ | decide | exact ⟨by simp (disch := omega) only [dt_up_s, dt_up_k, dt_up_n]; omega, by simp (disch := omega) only [dt_up_s, dt_up_k, dt_up_n]; omega⟩) ?_
                          rw [show ((3 : Int) + (Ts.length : Int)).toNat = 3 + Ts.length by omega]
                          refine dt_vret dX12_readWord_215 rfl (by decide) (by decide) ?_
                          rw [he]
                          refine ⟨rfl, rfl, (hfD.tr hfz.h).up.up.up, hZz.up.up.up, fun q h => ?_⟩
                          obtain rfl := Except.ok.inj h
                          exact (hfz.fr jR).word hl8 (by omega) (fun q r hq => by rw [hfz 45 _ (Or.inl (by decide))]; exact jw q r hq)
                      · skip
                        have h2t : u.1 = 2 := r3.mp (by omega)
                        obtain ⟨w, hw⟩ : ∃ w, kMost (kTold T (tk T t.2.2)) - rs.length = w + 1 := ⟨kMost (kTold T (tk T t.2.2)) - rs.length - 1, by omega⟩
                        rw [hw] at jr
                        have hor : u.1 = 2 ∨ rs.length < kLeast (kTold T (tk T t.2.2)) := by first | exact Or.inl (by assumption) | exact Or.inr (by assumption)
                        refine dt_aloadn dX12_readWord_136 rfl rfl ?_
                        refine dt_iconst dX12_readWord_137 ?_
                        refine dt_sipush dX12_readWord_138 (by decide) ?_
                        refine dt_xV dX12_readWord_141 pc_X12_150 rfl (s_X12_number jZ (by decide) (by decide)) rfl rfl ⟨by decide, by decide⟩ rfl rfl (Nat.le_of_ble_eq_true rfl) ⟨by decide, by decide⟩ ?_
                        intro vn shn σn hqn
                        obtain ⟨rfl, hsn, hfn, hZn⟩ := hqn
                        obtain rfl := hsn.symm
                        refine dt_istore dX12_readWord_144 (by decide) rfl ?_
                        dsimp only [List.set]
                        refine dt_wfV fun hwf => ?_
                        refine dt_aloadn dX12_readWord_146 rfl rfl ?_
                        refine dt_getI dX12_readWord_147 pg_X12_111_12 rfl rfl ?_
                        refine dt_if_ne (tgt := 170) dX12_readWord_150 (by decide) (by first | assumption | exact hwf _ _ | exact dt_b32 _ | omega | exact ⟨by omega, by omega⟩ | decide | exact ⟨by simp (disch := omega) only [dt_up_s, dt_up_k, dt_up_n]; omega, by simp (disch := omega) only [dt_up_s, dt_up_k, dt_up_n]; omega⟩) (fun c31 => ?_) (fun c31 => ?_)
                        · skip
                          obtain ⟨e, n1, n2⟩ | ⟨n0, n1, n2, n3⟩ := num_x (T := T) (w := w) hor
                          rotate_left
                          · rw [n1] at hZn; exact absurd hZn.o.2.2 (by assumption)
                          rw [n1] at hZn
                          have he : pWord T tg.length t = .error e := pWord_r (by omega) hk (jr.symm.trans n2)
                          have hZx := hZn
                          have hfx := jf.tr hfn.h
                          obtain ⟨x1, x2, x3, x4⟩ := hZx.x
                          refine dt_goto (tgt := 108) dX12_readWord_170 (by decide) ?_
                          refine dt_aloadn dX12_readWord_108 rfl rfl ?_
                          refine dt_getI dX12_readWord_109 pg_X12_111_12 rfl rfl ?_
                          refine dt_if_ne (tgt := 173) dX12_readWord_112 (by decide) (by first | assumption | exact hwf _ _ | exact dt_b32 _ | omega | exact ⟨by omega, by omega⟩ | decide | exact ⟨by simp (disch := omega) only [dt_up_s, dt_up_k, dt_up_n]; omega, by simp (disch := omega) only [dt_up_s, dt_up_k, dt_up_n]; omega⟩) (fun c32 => ?_) (fun c32 => ?_)
                          · skip
                            have hD := hZx
                            have hfD := hfx
                            refine dt_aloadn dX12_readWord_173 rfl rfl ?_
                            refine dt_xV dX12_readWord_174 pc_X12_154 rfl (s_X12_mustEnd hD) rfl rfl ⟨by decide, by decide⟩ rfl rfl (Nat.le_of_ble_eq_true rfl) ⟨by decide, by decide⟩ ?_
                            intro vz shz σz hqz
                            obtain ⟨rfl, hsz, hfz, hZz⟩ := hqz
                            obtain rfl := hsz.symm
                            refine dt_wfV fun hwf => ?_
                            obtain ⟨z1, z2, z3, z4⟩ := rZ.x hZz
                            refine dt_aloadn dX12_readWord_177 rfl rfl ?_
                            refine dt_getI dX12_readWord_178 pg_X12_111_12 rfl rfl ?_
                            refine dt_if_ne (tgt := 215) dX12_readWord_181 (by decide) (by first | assumption | exact hwf _ _ | exact dt_b32 _ | omega | exact ⟨by omega, by omega⟩ | decide | exact ⟨by simp (disch := omega) only [dt_up_s, dt_up_k, dt_up_n]; omega, by simp (disch := omega) only [dt_up_s, dt_up_k, dt_up_n]; omega⟩) (fun c33 => ?_) (fun c33 => ?_)
                            · skip
                              refine dt_vret dX12_readWord_215 rfl (by decide) (by decide) ?_
                              rw [he]
                              exact ⟨rfl, rfl, hfD.tr hfz.h, hZz, fun q h => by cases h⟩
                            · skip
                              first | exact absurd c33 (by omega) | exact absurd c33 (by decide) | exact absurd rfl c33
                          · skip
                            first | exact absurd c32 (by omega) | exact absurd c32 (by decide) | exact absurd rfl c32
                        · skip
                          obtain ⟨e, n1, n2⟩ | ⟨n0, n1, n2, n3⟩ := num_x (T := T) (w := w) hor
                          · exfalso; rw [n1] at hZn; have := hZn.x; omega
                          rw [n1] at hZn
                          have hv : mVal T (.ok u) = nT T u := if_pos n0
                          refine dt_aloadn dX12_readWord_153 rfl rfl ?_
                          refine dt_getR dX12_readWord_154 pg_X12_22_12 rfl rfl ?_
                          refine dt_iload dX12_readWord_157 rfl ?_
                          refine dt_iconst dX12_readWord_159 ?_
                          refine dt_iadd dX12_readWord_160 ?_
                          refine dt_iload dX12_readWord_161 rfl ?_
                          refine dt_iadd dX12_readWord_163 ?_
                          refine dt_iload dX12_readWord_164 rfl ?_
                          rw [hv]
                          refine dt_wfV fun hwf => ?_
                          refine dt_iast dX12_readWord_166 rfl (by first | omega | (simp (disch := omega) only [dt_up_s, dt_up_k, dt_up_n]; omega)) (by first | omega | (simp (disch := omega) only [dt_up_s, dt_up_k, dt_up_n]; omega)) (by decide) (by first | assumption | exact hwf _ _ | exact dt_b32 _ | omega | exact ⟨by omega, by omega⟩ | decide | exact ⟨by simp (disch := omega) only [dt_up_s, dt_up_k, dt_up_n]; omega, by simp (disch := omega) only [dt_up_s, dt_up_k, dt_up_n]; omega⟩) ?_
                          rw [show (18 + 40 * (Ts.length : Int) + 5 * (tg.length : Int) + 2 + (rs.length : Int)).toNat = 18 + 40 * Ts.length + 5 * tg.length + 2 + rs.length by omega]
                          refine dt_iinc dX12_readWord_167 rfl (by decide) rfl ?_
                          dsimp only [List.set]
                          refine dt_goto (tgt := 108) dX12_readWord_170 (by decide) ?_
                          have el : (rs ++ [nT T u]).length = rs.length + 1 := List.length_append
                          have jw2 : ∀ (q r : Nat), (rs ++ [nT T u])[q]? = some r → dt_up σn 45 (18 + 40 * Ts.length + 5 * tg.length + 2 + rs.length) ((nT T u : Nat) : Int) 45 (18 + 40 * Ts.length + 5 * tg.length + 2 + q) = r := fun q r hq => by
                            rcases dt_ap hq with g | ⟨rfl, rfl⟩
                            · have := dt_gl g
                              rw [dt_up_k (by omega), hfn 45 _ (Or.inl (by decide))]
                              exact jw q r g
                            · exact dt_up_s
                          exact dt_lb (ih (rs ++ [nT T u]) (tk T u.2.2) _ (by omega) (by omega) hZn.up ((hfn.fr jR).read) jw2 ((jf.tr hfn.h).up) (by rw [show kMost (kTold T (tk T t.2.2)) - (rs ++ [nT T u]).length = w by omega]; exact n2.symm.trans jr)) ⟨rfl, rfl, rfl, rfl, rfl, rfl, (dt_ie (by omega)), trivial⟩
            exact dt_lb (lp108 5 [] (tk T (tk T t.2.2).2.2) σk (by show 4 - ((0 : Nat) : Int) < _; omega) (Nat.zero_le _) hZk hRk (fun q r hq => by cases (show (none : Option Nat) = some r from hq)) hfx rfl) ⟨rfl, rfl, rfl, (dt_ie (by unfold kLeast; split <;> omega)), (dt_ie (by unfold kMost; split <;> omega)), rfl, (dt_ie rfl), trivial⟩
        · skip
          refine dt_iconst dX12_readWord_67 ?_
          refine dt_goto (tgt := 72) dX12_readWord_68 (by decide) ?_
          refine dt_istoren dX12_readWord_72 rfl (by decide) rfl ?_
          dsimp only [List.set]
          refine dt_iloadn dX12_readWord_73 rfl rfl ?_
          refine dt_iconst dX12_readWord_74 ?_
          refine dt_cm_ge (tgt := 82) dX12_readWord_75 (by decide) (by first | assumption | exact hwf _ _ | exact dt_b32 _ | omega | exact ⟨by omega, by omega⟩ | decide | exact ⟨by simp (disch := omega) only [dt_up_s, dt_up_k, dt_up_n]; omega, by simp (disch := omega) only [dt_up_s, dt_up_k, dt_up_n]; omega⟩) (by first | assumption | exact hwf _ _ | exact dt_b32 _ | omega | exact ⟨by omega, by omega⟩ | decide | exact ⟨by simp (disch := omega) only [dt_up_s, dt_up_k, dt_up_n]; omega, by simp (disch := omega) only [dt_up_s, dt_up_k, dt_up_n]; omega⟩) (fun c34 => ?_) (fun c34 => ?_)
          · skip
            refine dt_iconst dX12_readWord_82 ?_
            refine dt_istore dX12_readWord_83 (by decide) rfl ?_
            dsimp only [List.set]
            refine dt_bipush dX12_readWord_85 (by decide) ?_
            refine dt_bipush dX12_readWord_87 (by decide) ?_
            refine dt_iloadn dX12_readWord_89 rfl rfl ?_
            refine dt_imul dX12_readWord_90 ?_
            refine dt_iadd dX12_readWord_91 ?_
            refine dt_iconst dX12_readWord_92 ?_
            refine dt_wfV fun hwf => ?_
            refine dt_aloadn dX12_readWord_93 rfl rfl ?_
            refine dt_getR dX12_readWord_94 pg_X12_22_12 rfl rfl ?_
            refine dt_iconst dX12_readWord_97 ?_
            refine dt_iloadn dX12_readWord_98 rfl rfl ?_
            refine dt_iadd dX12_readWord_99 ?_
            refine dt_iald dX12_readWord_100 rfl (by first | omega | (simp (disch := omega) only [dt_up_s, dt_up_k, dt_up_n]; omega)) (by first | omega | (simp (disch := omega) only [dt_up_s, dt_up_k, dt_up_n]; omega)) (by decide) ?_
            rw [show ((3 : Int) + (Ts.length : Int)).toNat = 3 + Ts.length by omega, e3k]
            refine dt_imul dX12_readWord_101 ?_
            refine dt_iadd dX12_readWord_102 ?_
            refine dt_istore dX12_readWord_103 (by decide) rfl ?_
            dsimp only [List.set]
            refine dt_iconst dX12_readWord_105 ?_
            refine dt_istore dX12_readWord_106 (by decide) rfl ?_
            dsimp only [List.set]
            have lp108 : ∀ (fu : Nat) (rs : List Nat) (u : Tok) (σ1 : dt_Mem), 4 - (rs.length : Int) < (fu : Int) → (rs.length ≤ kMost (kTold T (tk T t.2.2))) → (rZ σ1 T (.ok u)) → (rFr σ1 (Ts ++ [tg]) Ps) → (∀ (q r : Nat), rs[q]? = some r → σ1 45 (18 + 40 * Ts.length + 5 * tg.length + 2 + q) = r) → (rH σ σ1) → (pReads T (kLeast (kTold T (tk T t.2.2))) (kMost (kTold T (tk T t.2.2)) - rs.length) rs u = pReads T (kLeast (kTold T (tk T t.2.2))) (kMost (kTold T (tk T t.2.2))) [] (tk T (tk T t.2.2).2.2)) →  dt_V mX12_readWord (dt_rm 4 0 0) (dt_MC (fun v sh2 σ2 => v = none ∧ sh2 = dt_SH ++ ex ∧ rH σ σ2 ∧ rZ σ2 T (pS (pWord T tg.length t)) ∧ ∀ q, pWord T tg.length t = .ok q → rFr σ2 (Ts ++ [tg ++ [q.1]]) Ps) 0 0) 0 0 108 [some (dt_R 40), some (dt_I (Ts.length : Int)), some (dt_I so), some (dt_I ((kLeast (kTold T (tk T t.2.2)) : Nat) : Int)), some (dt_I ((kMost (kTold T (tk T t.2.2)) : Nat) : Int)), some (dt_I (18 + 40 * (Ts.length : Int) + 5 * (tg.length : Int))), some (dt_I (rs.length : Int)), none] [] (dt_SH ++ ex) σ1 := by
              intro fu
              induction fu with
              | zero =>
                intro rs u σ1 hm jl jZ jR jw jf jr
                exfalso
                omega
              | succ fu ih =>
                intro rs u σ1 hm jl jZ jR jw jf jr
                refine dt_wfV fun hwf => ?_
                obtain ⟨jL, jt, j0⟩ := jZ.o
                obtain ⟨k1, k2, k3, k4, k5⟩ := jt.ok
                obtain ⟨⟨t1, t2, t3, t4⟩, -⟩ := id jt
                obtain ⟨r1, r2, r3, r4⟩ := rS_i k3
                refine dt_aloadn dX12_readWord_108 rfl rfl ?_
                refine dt_getI dX12_readWord_109 pg_X12_111_12 rfl rfl ?_
                refine dt_if_ne (tgt := 173) dX12_readWord_112 (by decide) (by first | assumption | exact hwf _ _ | exact dt_b32 _ | omega | exact ⟨by omega, by omega⟩ | decide | exact ⟨by simp (disch := omega) only [dt_up_s, dt_up_k, dt_up_n]; omega, by simp (disch := omega) only [dt_up_s, dt_up_k, dt_up_n]; omega⟩) (fun c35 => ?_) (fun c35 => ?_)
                · skip
                  first | exact absurd c35 (by omega) | exact absurd c35 (by decide) | exact absurd rfl c35
                · skip
                  refine dt_iload dX12_readWord_115 rfl ?_
                  refine dt_iloadn dX12_readWord_117 rfl rfl ?_
                  refine dt_cm_lt (tgt := 136) dX12_readWord_118 (by decide) (by first | assumption | exact hwf _ _ | exact dt_b32 _ | omega | exact ⟨by omega, by omega⟩ | decide | exact ⟨by simp (disch := omega) only [dt_up_s, dt_up_k, dt_up_n]; omega, by simp (disch := omega) only [dt_up_s, dt_up_k, dt_up_n]; omega⟩) (by first | assumption | exact hwf _ _ | exact dt_b32 _ | omega | exact ⟨by omega, by omega⟩ | decide | exact ⟨by simp (disch := omega) only [dt_up_s, dt_up_k, dt_up_n]; omega, by simp (disch := omega) only [dt_up_s, dt_up_k, dt_up_n]; omega⟩) (fun c36 => ?_) (fun c36 => ?_)
                  · skip
                    have hnl : rs.length < kLeast (kTold T (tk T t.2.2)) := by omega
                    obtain ⟨w, hw⟩ : ∃ w, kMost (kTold T (tk T t.2.2)) - rs.length = w + 1 := ⟨kMost (kTold T (tk T t.2.2)) - rs.length - 1, by omega⟩
                    rw [hw] at jr
                    have hor : u.1 = 2 ∨ rs.length < kLeast (kTold T (tk T t.2.2)) := by first | exact Or.inl (by assumption) | exact Or.inr (by assumption)
                    refine dt_aloadn dX12_readWord_136 rfl rfl ?_
                    refine dt_iconst dX12_readWord_137 ?_
                    refine dt_sipush dX12_readWord_138 (by decide) ?_
                    refine dt_xV dX12_readWord_141 pc_X12_150 rfl (s_X12_number jZ (by decide) (by decide)) rfl rfl ⟨by decide, by decide⟩ rfl rfl (Nat.le_of_ble_eq_true rfl) ⟨by decide, by decide⟩ ?_
                    intro vn shn σn hqn
                    obtain ⟨rfl, hsn, hfn, hZn⟩ := hqn
                    obtain rfl := hsn.symm
                    refine dt_istore dX12_readWord_144 (by decide) rfl ?_
                    dsimp only [List.set]
                    refine dt_wfV fun hwf => ?_
                    refine dt_aloadn dX12_readWord_146 rfl rfl ?_
                    refine dt_getI dX12_readWord_147 pg_X12_111_12 rfl rfl ?_
                    refine dt_if_ne (tgt := 170) dX12_readWord_150 (by decide) (by first | assumption | exact hwf _ _ | exact dt_b32 _ | omega | exact ⟨by omega, by omega⟩ | decide | exact ⟨by simp (disch := omega) only [dt_up_s, dt_up_k, dt_up_n]; omega, by simp (disch := omega) only [dt_up_s, dt_up_k, dt_up_n]; omega⟩) (fun c37 => ?_) (fun c37 => ?_)
                    · skip
                      obtain ⟨e, n1, n2⟩ | ⟨n0, n1, n2, n3⟩ := num_x (T := T) (w := w) hor
                      rotate_left
                      · rw [n1] at hZn; exact absurd hZn.o.2.2 (by assumption)
                      rw [n1] at hZn
                      have he : pWord T tg.length t = .error e := pWord_r (by omega) hk (jr.symm.trans n2)
                      have hZx := hZn
                      have hfx := jf.tr hfn.h
                      obtain ⟨x1, x2, x3, x4⟩ := hZx.x
                      refine dt_goto (tgt := 108) dX12_readWord_170 (by decide) ?_
                      refine dt_aloadn dX12_readWord_108 rfl rfl ?_
                      refine dt_getI dX12_readWord_109 pg_X12_111_12 rfl rfl ?_
                      refine dt_if_ne (tgt := 173) dX12_readWord_112 (by decide) (by first | assumption | exact hwf _ _ | exact dt_b32 _ | omega | exact ⟨by omega, by omega⟩ | decide | exact ⟨by simp (disch := omega) only [dt_up_s, dt_up_k, dt_up_n]; omega, by simp (disch := omega) only [dt_up_s, dt_up_k, dt_up_n]; omega⟩) (fun c38 => ?_) (fun c38 => ?_)
                      · skip
                        have hD := hZx
                        have hfD := hfx
                        refine dt_aloadn dX12_readWord_173 rfl rfl ?_
                        refine dt_xV dX12_readWord_174 pc_X12_154 rfl (s_X12_mustEnd hD) rfl rfl ⟨by decide, by decide⟩ rfl rfl (Nat.le_of_ble_eq_true rfl) ⟨by decide, by decide⟩ ?_
                        intro vz shz σz hqz
                        obtain ⟨rfl, hsz, hfz, hZz⟩ := hqz
                        obtain rfl := hsz.symm
                        refine dt_wfV fun hwf => ?_
                        obtain ⟨z1, z2, z3, z4⟩ := rZ.x hZz
                        refine dt_aloadn dX12_readWord_177 rfl rfl ?_
                        refine dt_getI dX12_readWord_178 pg_X12_111_12 rfl rfl ?_
                        refine dt_if_ne (tgt := 215) dX12_readWord_181 (by decide) (by first | assumption | exact hwf _ _ | exact dt_b32 _ | omega | exact ⟨by omega, by omega⟩ | decide | exact ⟨by simp (disch := omega) only [dt_up_s, dt_up_k, dt_up_n]; omega, by simp (disch := omega) only [dt_up_s, dt_up_k, dt_up_n]; omega⟩) (fun c39 => ?_) (fun c39 => ?_)
                        · skip
                          refine dt_vret dX12_readWord_215 rfl (by decide) (by decide) ?_
                          rw [he]
                          exact ⟨rfl, rfl, hfD.tr hfz.h, hZz, fun q h => by cases h⟩
                        · skip
                          first | exact absurd c39 (by omega) | exact absurd c39 (by decide) | exact absurd rfl c39
                      · skip
                        first | exact absurd c38 (by omega) | exact absurd c38 (by decide) | exact absurd rfl c38
                    · skip
                      obtain ⟨e, n1, n2⟩ | ⟨n0, n1, n2, n3⟩ := num_x (T := T) (w := w) hor
                      · exfalso; rw [n1] at hZn; have := hZn.x; omega
                      rw [n1] at hZn
                      have hv : mVal T (.ok u) = nT T u := if_pos n0
                      refine dt_aloadn dX12_readWord_153 rfl rfl ?_
                      refine dt_getR dX12_readWord_154 pg_X12_22_12 rfl rfl ?_
                      refine dt_iload dX12_readWord_157 rfl ?_
                      refine dt_iconst dX12_readWord_159 ?_
                      refine dt_iadd dX12_readWord_160 ?_
                      refine dt_iload dX12_readWord_161 rfl ?_
                      refine dt_iadd dX12_readWord_163 ?_
                      refine dt_iload dX12_readWord_164 rfl ?_
                      rw [hv]
                      refine dt_wfV fun hwf => ?_
                      refine dt_iast dX12_readWord_166 rfl (by first | omega | (simp (disch := omega) only [dt_up_s, dt_up_k, dt_up_n]; omega)) (by first | omega | (simp (disch := omega) only [dt_up_s, dt_up_k, dt_up_n]; omega)) (by decide) (by first | assumption | exact hwf _ _ | exact dt_b32 _ | omega | exact ⟨by omega, by omega⟩ | decide | exact ⟨by simp (disch := omega) only [dt_up_s, dt_up_k, dt_up_n]; omega, by simp (disch := omega) only [dt_up_s, dt_up_k, dt_up_n]; omega⟩) ?_
                      rw [show (18 + 40 * (Ts.length : Int) + 5 * (tg.length : Int) + 2 + (rs.length : Int)).toNat = 18 + 40 * Ts.length + 5 * tg.length + 2 + rs.length by omega]
                      refine dt_iinc dX12_readWord_167 rfl (by decide) rfl ?_
                      dsimp only [List.set]
                      refine dt_goto (tgt := 108) dX12_readWord_170 (by decide) ?_
                      have el : (rs ++ [nT T u]).length = rs.length + 1 := List.length_append
                      have jw2 : ∀ (q r : Nat), (rs ++ [nT T u])[q]? = some r → dt_up σn 45 (18 + 40 * Ts.length + 5 * tg.length + 2 + rs.length) ((nT T u : Nat) : Int) 45 (18 + 40 * Ts.length + 5 * tg.length + 2 + q) = r := fun q r hq => by
                        rcases dt_ap hq with g | ⟨rfl, rfl⟩
                        · have := dt_gl g
                          rw [dt_up_k (by omega), hfn 45 _ (Or.inl (by decide))]
                          exact jw q r g
                        · exact dt_up_s
                      exact dt_lb (ih (rs ++ [nT T u]) (tk T u.2.2) _ (by omega) (by omega) hZn.up ((hfn.fr jR).read) jw2 ((jf.tr hfn.h).up) (by rw [show kMost (kTold T (tk T t.2.2)) - (rs ++ [nT T u]).length = w by omega]; exact n2.symm.trans jr)) ⟨rfl, rfl, rfl, rfl, rfl, rfl, (dt_ie (by omega)), trivial⟩
                  · skip
                    refine dt_iload dX12_readWord_121 rfl ?_
                    refine dt_iload dX12_readWord_123 rfl ?_
                    refine dt_cm_ge (tgt := 173) dX12_readWord_125 (by decide) (by first | assumption | exact hwf _ _ | exact dt_b32 _ | omega | exact ⟨by omega, by omega⟩ | decide | exact ⟨by simp (disch := omega) only [dt_up_s, dt_up_k, dt_up_n]; omega, by simp (disch := omega) only [dt_up_s, dt_up_k, dt_up_n]; omega⟩) (by first | assumption | exact hwf _ _ | exact dt_b32 _ | omega | exact ⟨by omega, by omega⟩ | decide | exact ⟨by simp (disch := omega) only [dt_up_s, dt_up_k, dt_up_n]; omega, by simp (disch := omega) only [dt_up_s, dt_up_k, dt_up_n]; omega⟩) (fun c40 => ?_) (fun c40 => ?_)
                    · skip
                      have hR2 : pReads T (kLeast (kTold T (tk T t.2.2))) (kMost (kTold T (tk T t.2.2))) [] (tk T (tk T t.2.2).2.2) = .ok (rs, u) := by rw [← jr, show kMost (kTold T (tk T t.2.2)) - rs.length = 0 by omega]; rfl
                      have hD := jZ
                      have hfD := jf
                      refine dt_aloadn dX12_readWord_173 rfl rfl ?_
                      refine dt_xV dX12_readWord_174 pc_X12_154 rfl (s_X12_mustEnd hD) rfl rfl ⟨by decide, by decide⟩ rfl rfl (Nat.le_of_ble_eq_true rfl) ⟨by decide, by decide⟩ ?_
                      intro vz shz σz hqz
                      obtain ⟨rfl, hsz, hfz, hZz⟩ := hqz
                      obtain rfl := hsz.symm
                      refine dt_wfV fun hwf => ?_
                      refine dt_aloadn dX12_readWord_177 rfl rfl ?_
                      refine dt_getI dX12_readWord_178 pg_X12_111_12 rfl rfl ?_
                      refine dt_if_ne (tgt := 215) dX12_readWord_181 (by decide) (by first | assumption | exact hwf _ _ | exact dt_b32 _ | omega | exact ⟨by omega, by omega⟩ | decide | exact ⟨by simp (disch := omega) only [dt_up_s, dt_up_k, dt_up_n]; omega, by simp (disch := omega) only [dt_up_s, dt_up_k, dt_up_n]; omega⟩) (fun c41 => ?_) (fun c41 => ?_)
                      · skip
                        obtain ⟨e, hsm⟩ | ⟨u2, hsm⟩ := pR_c (pSemi T u)
                        rotate_left
                        · exfalso; rw [show mEnd T (.ok u) = .ok u2 from hsm] at hZz; exact absurd hZz.o.2.2 (by assumption)
                        rw [show mEnd T (.ok u) = .error e from hsm] at hZz
                        have he : pWord T tg.length t = .error e := pWord_e (by omega) hk hR2 hsm
                        refine dt_vret dX12_readWord_215 rfl (by decide) (by decide) ?_
                        rw [he]
                        exact ⟨rfl, rfl, hfD.tr hfz.h, hZz, fun q h => by cases h⟩
                      · skip
                        obtain ⟨e, hsm⟩ | ⟨u2, hsm⟩ := pR_c (pSemi T u)
                        · exfalso; rw [show mEnd T (.ok u) = .error e from hsm] at hZz; have := hZz.x; omega
                        rw [show mEnd T (.ok u) = .ok u2 from hsm] at hZz
                        have he : pWord T tg.length t = .ok (((kTold T (tk T t.2.2)), rs), u2) := pWord_o (by omega) hk hR2 hsm
                        refine dt_aloadn dX12_readWord_184 rfl rfl ?_
                        refine dt_getR dX12_readWord_185 pg_X12_22_12 rfl rfl ?_
                        refine dt_iload dX12_readWord_188 rfl ?_
                        refine dt_iloadn dX12_readWord_190 rfl rfl ?_
                        refine dt_wfV fun hwf => ?_
                        refine dt_iast dX12_readWord_191 rfl (by first | omega | (simp (disch := omega) only [dt_up_s, dt_up_k, dt_up_n]; omega)) (by first | omega | (simp (disch := omega) only [dt_up_s, dt_up_k, dt_up_n]; omega)) (by decide) (by first | assumption | exact hwf _ _ | exact dt_b32 _ | omega | exact ⟨by omega, by omega⟩ | decide | exact ⟨by simp (disch := omega) only [dt_up_s, dt_up_k, dt_up_n]; omega, by simp (disch := omega) only [dt_up_s, dt_up_k, dt_up_n]; omega⟩) ?_
                        rw [show (18 + 40 * (Ts.length : Int) + 5 * (tg.length : Int)).toNat = 18 + 40 * Ts.length + 5 * tg.length by omega, hso]
                        refine dt_aloadn dX12_readWord_192 rfl rfl ?_
                        refine dt_getR dX12_readWord_193 pg_X12_22_12 rfl rfl ?_
                        refine dt_iload dX12_readWord_196 rfl ?_
                        refine dt_iconst dX12_readWord_198 ?_
                        refine dt_iadd dX12_readWord_199 ?_
                        refine dt_iload dX12_readWord_200 rfl ?_
                        refine dt_wfV fun hwf => ?_
                        refine dt_iast dX12_readWord_202 rfl (by first | omega | (simp (disch := omega) only [dt_up_s, dt_up_k, dt_up_n]; omega)) (by first | omega | (simp (disch := omega) only [dt_up_s, dt_up_k, dt_up_n]; omega)) (by decide) (by first | assumption | exact hwf _ _ | exact dt_b32 _ | omega | exact ⟨by omega, by omega⟩ | decide | exact ⟨by simp (disch := omega) only [dt_up_s, dt_up_k, dt_up_n]; omega, by simp (disch := omega) only [dt_up_s, dt_up_k, dt_up_n]; omega⟩) ?_
                        rw [show (18 + 40 * (Ts.length : Int) + 5 * (tg.length : Int) + 1).toNat = 18 + 40 * Ts.length + 5 * tg.length + 1 by omega]
                        refine dt_aloadn dX12_readWord_203 rfl rfl ?_
                        refine dt_getR dX12_readWord_204 pg_X12_22_12 rfl rfl ?_
                        refine dt_iconst dX12_readWord_207 ?_
                        refine dt_iloadn dX12_readWord_208 rfl rfl ?_
                        refine dt_iadd dX12_readWord_209 ?_
                        refine dt_dup2 dX12_readWord_210 ?_
                        refine dt_iald dX12_readWord_211 rfl (by first | omega | (simp (disch := omega) only [dt_up_s, dt_up_k, dt_up_n]; omega)) (by first | omega | (simp (disch := omega) only [dt_up_s, dt_up_k, dt_up_n]; omega)) (by decide) ?_
                        rw [show ((3 : Int) + (Ts.length : Int)).toNat = 3 + Ts.length by omega]
                        rw [dt_up_k (by omega), dt_up_k (by omega), (hfz.fr jR).last.2.2.1]
                        refine dt_iconst dX12_readWord_212 ?_
                        refine dt_iadd dX12_readWord_213 ?_
                        refine dt_wfV fun hwf => ?_
                        refine dt_iast dX12_readWord_214 rfl (by first | omega | (simp (disch := omega) only [dt_up_s, dt_up_k, dt_up_n]; omega)) (by first | omega | (simp (disch := omega) only [dt_up_s, dt_up_k, dt_up_n]; omega)) (by decide) (by first | assumption | exact hwf _ _ | exact dt_b32 _ | omega | exact ⟨by omega, by omega⟩ | decide | exact ⟨by simp (disch := omega) only [dt_up_s, dt_up_k, dt_up_n]; omega, by simp (disch := omega) only [dt_up_s, dt_up_k, dt_up_n]; omega⟩) ?_
                        rw [show ((3 : Int) + (Ts.length : Int)).toNat = 3 + Ts.length by omega]
                        refine dt_vret dX12_readWord_215 rfl (by decide) (by decide) ?_
                        rw [he]
                        refine ⟨rfl, rfl, (hfD.tr hfz.h).up.up.up, hZz.up.up.up, fun q h => ?_⟩
                        obtain rfl := Except.ok.inj h
                        exact (hfz.fr jR).word hl8 (by omega) (fun q r hq => by rw [hfz 45 _ (Or.inl (by decide))]; exact jw q r hq)
                    · skip
                      refine dt_aloadn dX12_readWord_128 rfl rfl ?_
                      refine dt_getI dX12_readWord_129 pg_X12_99_12 rfl rfl ?_
                      refine dt_iconst dX12_readWord_132 ?_
                      refine dt_cm_ne (tgt := 173) dX12_readWord_133 (by decide) (by first | assumption | exact hwf _ _ | exact dt_b32 _ | omega | exact ⟨by omega, by omega⟩ | decide | exact ⟨by simp (disch := omega) only [dt_up_s, dt_up_k, dt_up_n]; omega, by simp (disch := omega) only [dt_up_s, dt_up_k, dt_up_n]; omega⟩) (by first | assumption | exact hwf _ _ | exact dt_b32 _ | omega | exact ⟨by omega, by omega⟩ | decide | exact ⟨by simp (disch := omega) only [dt_up_s, dt_up_k, dt_up_n]; omega, by simp (disch := omega) only [dt_up_s, dt_up_k, dt_up_n]; omega⟩) (fun c42 => ?_) (fun c42 => ?_)
                      · skip
                        have h2f : ¬ u.1 = 2 := fun z => by have := r3.mpr z; omega
                        obtain ⟨w, hw⟩ : ∃ w, kMost (kTold T (tk T t.2.2)) - rs.length = w + 1 := ⟨kMost (kTold T (tk T t.2.2)) - rs.length - 1, by omega⟩
                        have hR2 : pReads T (kLeast (kTold T (tk T t.2.2))) (kMost (kTold T (tk T t.2.2))) [] (tk T (tk T t.2.2).2.2) = .ok (rs, u) := by rw [← jr, hw]; exact pReads_o h2f (by omega)
                        have hD := jZ
                        have hfD := jf
                        refine dt_aloadn dX12_readWord_173 rfl rfl ?_
                        refine dt_xV dX12_readWord_174 pc_X12_154 rfl (s_X12_mustEnd hD) rfl rfl ⟨by decide, by decide⟩ rfl rfl (Nat.le_of_ble_eq_true rfl) ⟨by decide, by decide⟩ ?_
                        intro vz shz σz hqz
                        obtain ⟨rfl, hsz, hfz, hZz⟩ := hqz
                        obtain rfl := hsz.symm
                        refine dt_wfV fun hwf => ?_
                        refine dt_aloadn dX12_readWord_177 rfl rfl ?_
                        refine dt_getI dX12_readWord_178 pg_X12_111_12 rfl rfl ?_
                        refine dt_if_ne (tgt := 215) dX12_readWord_181 (by decide) (by first | assumption | exact hwf _ _ | exact dt_b32 _ | omega | exact ⟨by omega, by omega⟩ | decide | exact ⟨by simp (disch := omega) only [dt_up_s, dt_up_k, dt_up_n]; omega, by simp (disch := omega) only [dt_up_s, dt_up_k, dt_up_n]; omega⟩) (fun c43 => ?_) (fun c43 => ?_)
                        · skip
                          obtain ⟨e, hsm⟩ | ⟨u2, hsm⟩ := pR_c (pSemi T u)
                          rotate_left
                          · exfalso; rw [show mEnd T (.ok u) = .ok u2 from hsm] at hZz; exact absurd hZz.o.2.2 (by assumption)
                          rw [show mEnd T (.ok u) = .error e from hsm] at hZz
                          have he : pWord T tg.length t = .error e := pWord_e (by omega) hk hR2 hsm
                          refine dt_vret dX12_readWord_215 rfl (by decide) (by decide) ?_
                          rw [he]
                          exact ⟨rfl, rfl, hfD.tr hfz.h, hZz, fun q h => by cases h⟩
                        · skip
                          obtain ⟨e, hsm⟩ | ⟨u2, hsm⟩ := pR_c (pSemi T u)
                          · exfalso; rw [show mEnd T (.ok u) = .error e from hsm] at hZz; have := hZz.x; omega
                          rw [show mEnd T (.ok u) = .ok u2 from hsm] at hZz
                          have he : pWord T tg.length t = .ok (((kTold T (tk T t.2.2)), rs), u2) := pWord_o (by omega) hk hR2 hsm
                          refine dt_aloadn dX12_readWord_184 rfl rfl ?_
                          refine dt_getR dX12_readWord_185 pg_X12_22_12 rfl rfl ?_
                          refine dt_iload dX12_readWord_188 rfl ?_
                          refine dt_iloadn dX12_readWord_190 rfl rfl ?_
                          refine dt_wfV fun hwf => ?_
                          refine dt_iast dX12_readWord_191 rfl (by first | omega | (simp (disch := omega) only [dt_up_s, dt_up_k, dt_up_n]; omega)) (by first | omega | (simp (disch := omega) only [dt_up_s, dt_up_k, dt_up_n]; omega)) (by decide) (by first | assumption | exact hwf _ _ | exact dt_b32 _ | omega | exact ⟨by omega, by omega⟩ | decide | exact ⟨by simp (disch := omega) only [dt_up_s, dt_up_k, dt_up_n]; omega, by simp (disch := omega) only [dt_up_s, dt_up_k, dt_up_n]; omega⟩) ?_
                          rw [show (18 + 40 * (Ts.length : Int) + 5 * (tg.length : Int)).toNat = 18 + 40 * Ts.length + 5 * tg.length by omega, hso]
                          refine dt_aloadn dX12_readWord_192 rfl rfl ?_
                          refine dt_getR dX12_readWord_193 pg_X12_22_12 rfl rfl ?_
                          refine dt_iload dX12_readWord_196 rfl ?_
                          refine dt_iconst dX12_readWord_198 ?_
                          refine dt_iadd dX12_readWord_199 ?_
                          refine dt_iload dX12_readWord_200 rfl ?_
                          refine dt_wfV fun hwf => ?_
                          refine dt_iast dX12_readWord_202 rfl (by first | omega | (simp (disch := omega) only [dt_up_s, dt_up_k, dt_up_n]; omega)) (by first | omega | (simp (disch := omega) only [dt_up_s, dt_up_k, dt_up_n]; omega)) (by decide) (by first | assumption | exact hwf _ _ | exact dt_b32 _ | omega | exact ⟨by omega, by omega⟩ | decide | exact ⟨by simp (disch := omega) only [dt_up_s, dt_up_k, dt_up_n]; omega, by simp (disch := omega) only [dt_up_s, dt_up_k, dt_up_n]; omega⟩) ?_
                          rw [show (18 + 40 * (Ts.length : Int) + 5 * (tg.length : Int) + 1).toNat = 18 + 40 * Ts.length + 5 * tg.length + 1 by omega]
                          refine dt_aloadn dX12_readWord_203 rfl rfl ?_
                          refine dt_getR dX12_readWord_204 pg_X12_22_12 rfl rfl ?_
                          refine dt_iconst dX12_readWord_207 ?_
                          refine dt_iloadn dX12_readWord_208 rfl rfl ?_
                          refine dt_iadd dX12_readWord_209 ?_
                          refine dt_dup2 dX12_readWord_210 ?_
                          refine dt_iald dX12_readWord_211 rfl (by first | omega | (simp (disch := omega) only [dt_up_s, dt_up_k, dt_up_n]; omega)) (by first | omega | (simp (disch := omega) only [dt_up_s, dt_up_k, dt_up_n]; omega)) (by decide) ?_
                          rw [show ((3 : Int) + (Ts.length : Int)).toNat = 3 + Ts.length by omega]
                          rw [dt_up_k (by omega), dt_up_k (by omega), (hfz.fr jR).last.2.2.1]
                          refine dt_iconst dX12_readWord_212 ?_
                          refine dt_iadd dX12_readWord_213 ?_
                          refine dt_wfV fun hwf => ?_
                          refine dt_iast dX12_readWord_214 rfl (by first | omega | (simp (disch := omega) only [dt_up_s, dt_up_k, dt_up_n]; omega)) (by first | omega | (simp (disch := omega) only [dt_up_s, dt_up_k, dt_up_n]; omega)) (by decide) (by first | assumption | exact hwf _ _ | exact dt_b32 _ | omega | exact ⟨by omega, by omega⟩ | decide | exact ⟨by simp (disch := omega) only [dt_up_s, dt_up_k, dt_up_n]; omega, by simp (disch := omega) only [dt_up_s, dt_up_k, dt_up_n]; omega⟩) ?_
                          rw [show ((3 : Int) + (Ts.length : Int)).toNat = 3 + Ts.length by omega]
                          refine dt_vret dX12_readWord_215 rfl (by decide) (by decide) ?_
                          rw [he]
                          refine ⟨rfl, rfl, (hfD.tr hfz.h).up.up.up, hZz.up.up.up, fun q h => ?_⟩
                          obtain rfl := Except.ok.inj h
                          exact (hfz.fr jR).word hl8 (by omega) (fun q r hq => by rw [hfz 45 _ (Or.inl (by decide))]; exact jw q r hq)
                      · skip
                        have h2t : u.1 = 2 := r3.mp (by omega)
                        obtain ⟨w, hw⟩ : ∃ w, kMost (kTold T (tk T t.2.2)) - rs.length = w + 1 := ⟨kMost (kTold T (tk T t.2.2)) - rs.length - 1, by omega⟩
                        rw [hw] at jr
                        have hor : u.1 = 2 ∨ rs.length < kLeast (kTold T (tk T t.2.2)) := by first | exact Or.inl (by assumption) | exact Or.inr (by assumption)
                        refine dt_aloadn dX12_readWord_136 rfl rfl ?_
                        refine dt_iconst dX12_readWord_137 ?_
                        refine dt_sipush dX12_readWord_138 (by decide) ?_
                        refine dt_xV dX12_readWord_141 pc_X12_150 rfl (s_X12_number jZ (by decide) (by decide)) rfl rfl ⟨by decide, by decide⟩ rfl rfl (Nat.le_of_ble_eq_true rfl) ⟨by decide, by decide⟩ ?_
                        intro vn shn σn hqn
                        obtain ⟨rfl, hsn, hfn, hZn⟩ := hqn
                        obtain rfl := hsn.symm
                        refine dt_istore dX12_readWord_144 (by decide) rfl ?_
                        dsimp only [List.set]
                        refine dt_wfV fun hwf => ?_
                        refine dt_aloadn dX12_readWord_146 rfl rfl ?_
                        refine dt_getI dX12_readWord_147 pg_X12_111_12 rfl rfl ?_
                        refine dt_if_ne (tgt := 170) dX12_readWord_150 (by decide) (by first | assumption | exact hwf _ _ | exact dt_b32 _ | omega | exact ⟨by omega, by omega⟩ | decide | exact ⟨by simp (disch := omega) only [dt_up_s, dt_up_k, dt_up_n]; omega, by simp (disch := omega) only [dt_up_s, dt_up_k, dt_up_n]; omega⟩) (fun c44 => ?_) (fun c44 => ?_)
                        · skip
                          obtain ⟨e, n1, n2⟩ | ⟨n0, n1, n2, n3⟩ := num_x (T := T) (w := w) hor
                          rotate_left
                          · rw [n1] at hZn; exact absurd hZn.o.2.2 (by assumption)
                          rw [n1] at hZn
                          have he : pWord T tg.length t = .error e := pWord_r (by omega) hk (jr.symm.trans n2)
                          have hZx := hZn
                          have hfx := jf.tr hfn.h
                          obtain ⟨x1, x2, x3, x4⟩ := hZx.x
                          refine dt_goto (tgt := 108) dX12_readWord_170 (by decide) ?_
                          refine dt_aloadn dX12_readWord_108 rfl rfl ?_
                          refine dt_getI dX12_readWord_109 pg_X12_111_12 rfl rfl ?_
                          refine dt_if_ne (tgt := 173) dX12_readWord_112 (by decide) (by first | assumption | exact hwf _ _ | exact dt_b32 _ | omega | exact ⟨by omega, by omega⟩ | decide | exact ⟨by simp (disch := omega) only [dt_up_s, dt_up_k, dt_up_n]; omega, by simp (disch := omega) only [dt_up_s, dt_up_k, dt_up_n]; omega⟩) (fun c45 => ?_) (fun c45 => ?_)
                          · skip
                            have hD := hZx
                            have hfD := hfx
                            refine dt_aloadn dX12_readWord_173 rfl rfl ?_
                            refine dt_xV dX12_readWord_174 pc_X12_154 rfl (s_X12_mustEnd hD) rfl rfl ⟨by decide, by decide⟩ rfl rfl (Nat.le_of_ble_eq_true rfl) ⟨by decide, by decide⟩ ?_
                            intro vz shz σz hqz
                            obtain ⟨rfl, hsz, hfz, hZz⟩ := hqz
                            obtain rfl := hsz.symm
                            refine dt_wfV fun hwf => ?_
                            obtain ⟨z1, z2, z3, z4⟩ := rZ.x hZz
                            refine dt_aloadn dX12_readWord_177 rfl rfl ?_
                            refine dt_getI dX12_readWord_178 pg_X12_111_12 rfl rfl ?_
                            refine dt_if_ne (tgt := 215) dX12_readWord_181 (by decide) (by first | assumption | exact hwf _ _ | exact dt_b32 _ | omega | exact ⟨by omega, by omega⟩ | decide | exact ⟨by simp (disch := omega) only [dt_up_s, dt_up_k, dt_up_n]; omega, by simp (disch := omega) only [dt_up_s, dt_up_k, dt_up_n]; omega⟩) (fun c46 => ?_) (fun c46 => ?_)
                            · skip
                              refine dt_vret dX12_readWord_215 rfl (by decide) (by decide) ?_
                              rw [he]
                              exact ⟨rfl, rfl, hfD.tr hfz.h, hZz, fun q h => by cases h⟩
                            · skip
                              first | exact absurd c46 (by omega) | exact absurd c46 (by decide) | exact absurd rfl c46
                          · skip
                            first | exact absurd c45 (by omega) | exact absurd c45 (by decide) | exact absurd rfl c45
                        · skip
                          obtain ⟨e, n1, n2⟩ | ⟨n0, n1, n2, n3⟩ := num_x (T := T) (w := w) hor
                          · exfalso; rw [n1] at hZn; have := hZn.x; omega
                          rw [n1] at hZn
                          have hv : mVal T (.ok u) = nT T u := if_pos n0
                          refine dt_aloadn dX12_readWord_153 rfl rfl ?_
                          refine dt_getR dX12_readWord_154 pg_X12_22_12 rfl rfl ?_
                          refine dt_iload dX12_readWord_157 rfl ?_
                          refine dt_iconst dX12_readWord_159 ?_
                          refine dt_iadd dX12_readWord_160 ?_
                          refine dt_iload dX12_readWord_161 rfl ?_
                          refine dt_iadd dX12_readWord_163 ?_
                          refine dt_iload dX12_readWord_164 rfl ?_
                          rw [hv]
                          refine dt_wfV fun hwf => ?_
                          refine dt_iast dX12_readWord_166 rfl (by first | omega | (simp (disch := omega) only [dt_up_s, dt_up_k, dt_up_n]; omega)) (by first | omega | (simp (disch := omega) only [dt_up_s, dt_up_k, dt_up_n]; omega)) (by decide) (by first | assumption | exact hwf _ _ | exact dt_b32 _ | omega | exact ⟨by omega, by omega⟩ | decide | exact ⟨by simp (disch := omega) only [dt_up_s, dt_up_k, dt_up_n]; omega, by simp (disch := omega) only [dt_up_s, dt_up_k, dt_up_n]; omega⟩) ?_
                          rw [show (18 + 40 * (Ts.length : Int) + 5 * (tg.length : Int) + 2 + (rs.length : Int)).toNat = 18 + 40 * Ts.length + 5 * tg.length + 2 + rs.length by omega]
                          refine dt_iinc dX12_readWord_167 rfl (by decide) rfl ?_
                          dsimp only [List.set]
                          refine dt_goto (tgt := 108) dX12_readWord_170 (by decide) ?_
                          have el : (rs ++ [nT T u]).length = rs.length + 1 := List.length_append
                          have jw2 : ∀ (q r : Nat), (rs ++ [nT T u])[q]? = some r → dt_up σn 45 (18 + 40 * Ts.length + 5 * tg.length + 2 + rs.length) ((nT T u : Nat) : Int) 45 (18 + 40 * Ts.length + 5 * tg.length + 2 + q) = r := fun q r hq => by
                            rcases dt_ap hq with g | ⟨rfl, rfl⟩
                            · have := dt_gl g
                              rw [dt_up_k (by omega), hfn 45 _ (Or.inl (by decide))]
                              exact jw q r g
                            · exact dt_up_s
                          exact dt_lb (ih (rs ++ [nT T u]) (tk T u.2.2) _ (by omega) (by omega) hZn.up ((hfn.fr jR).read) jw2 ((jf.tr hfn.h).up) (by rw [show kMost (kTold T (tk T t.2.2)) - (rs ++ [nT T u]).length = w by omega]; exact n2.symm.trans jr)) ⟨rfl, rfl, rfl, rfl, rfl, rfl, (dt_ie (by omega)), trivial⟩
            exact dt_lb (lp108 5 [] (tk T (tk T t.2.2).2.2) σk (by show 4 - ((0 : Nat) : Int) < _; omega) (Nat.zero_le _) hZk hRk (fun q r hq => by cases (show (none : Option Nat) = some r from hq)) hfx rfl) ⟨rfl, rfl, rfl, (dt_ie (by unfold kLeast; split <;> omega)), (dt_ie (by unfold kMost; split <;> omega)), rfl, (dt_ie rfl), trivial⟩
          · skip
            first | exact absurd c34 (by omega) | exact absurd c34 (by decide) | exact absurd rfl c34
  · skip
    have he : pWord T tg.length t = .error (3, t.2.1) := pWord_f (by omega)
    refine dt_aloadn dX12_readWord_22 rfl rfl ?_
    refine dt_iconst dX12_readWord_23 ?_
    refine dt_xV dX12_readWord_24 pc_X12_120 rfl (s_X12_bad hZ (by decide)) rfl rfl ⟨by decide, by decide⟩ rfl rfl (Nat.le_of_ble_eq_true rfl) ⟨by decide, by decide⟩ ?_
    intro vb shb σb hqb
    obtain ⟨rfl, hsb, hfb, hZb⟩ := hqb
    obtain rfl := hsb.symm
    have hM : rZ σb T (.error (3, t.2.1)) := hZb
    have hfr : rH σ σb := hfb.h
    refine dt_aloadn dX12_readWord_27 rfl rfl ?_
    refine dt_iconst dX12_readWord_28 ?_
    refine dt_xV dX12_readWord_29 pc_X12_128 rfl (s_X12_must hM (by decide)) rfl rfl ⟨by decide, by decide⟩ rfl rfl (Nat.le_of_ble_eq_true rfl) ⟨by decide, by decide⟩ ?_
    intro vm shm σm hqm
    obtain ⟨rfl, hsm, hfm, hZm⟩ := hqm
    obtain rfl := hsm.symm
    rw [mMust_e] at hZm
    have hfr1 := hfr.tr hfm.h
    obtain ⟨x1, x2, x3, x4⟩ := hZm.x
    refine dt_wfV fun hwf => ?_
    refine dt_aloadn dX12_readWord_32 rfl rfl ?_
    refine dt_xV dX12_readWord_33 pc_X12_142 rfl (s_X12_name hZm) rfl rfl ⟨by decide, by decide⟩ rfl rfl (Nat.le_of_ble_eq_true rfl) ⟨by decide, by decide⟩ (dt_k3 ?_)
    have hb64 := nmZ_in hL.2.2.1
    refine dt_xS dX12_readWord_36 pc_X12_146 (s_X12_sortOf (hb64 _)) rfl rfl ⟨by decide, by decide⟩ (Nat.le_of_ble_eq_true rfl) ⟨by decide, by decide⟩ (dt_k3 ?_)
    rw [show sOf ((nmZ T (.error (3, t.2.1)) : Nat) : Int) = -1000000 from (show sOf ((0 : Nat) : Int) = -1000000 by decide)]
    obtain ⟨so, hso⟩ : ∃ z : Int, z = -1000000 := ⟨_, rfl⟩
    rw [← hso]
    refine dt_istoren dX12_readWord_39 rfl (by decide) rfl ?_
    dsimp only [List.set]
    refine dt_aloadn dX12_readWord_40 rfl rfl ?_
    refine dt_getI dX12_readWord_41 pg_X12_111_12 rfl rfl ?_
    refine dt_if_ne (tgt := 62) dX12_readWord_44 (by decide) (hwf _ _) (fun c47 => ?_) (fun c47 => ?_)
    · skip
      have hZx := hZm
      have hfx := hfr1
      refine dt_iloadn dX12_readWord_62 rfl rfl ?_
      refine dt_iconst dX12_readWord_63 ?_
      refine dt_cm_ne (tgt := 71) dX12_readWord_64 (by decide) (by first | assumption | exact hwf _ _ | exact dt_b32 _ | omega | exact ⟨by omega, by omega⟩ | decide | exact ⟨by simp (disch := omega) only [dt_up_s, dt_up_k, dt_up_n]; omega, by simp (disch := omega) only [dt_up_s, dt_up_k, dt_up_n]; omega⟩) (by first | assumption | exact hwf _ _ | exact dt_b32 _ | omega | exact ⟨by omega, by omega⟩ | decide | exact ⟨by simp (disch := omega) only [dt_up_s, dt_up_k, dt_up_n]; omega, by simp (disch := omega) only [dt_up_s, dt_up_k, dt_up_n]; omega⟩) (fun c48 => ?_) (fun c48 => ?_)
      · skip
        refine dt_iconst dX12_readWord_71 ?_
        refine dt_istoren dX12_readWord_72 rfl (by decide) rfl ?_
        dsimp only [List.set]
        refine dt_iloadn dX12_readWord_73 rfl rfl ?_
        refine dt_iconst dX12_readWord_74 ?_
        refine dt_cm_ge (tgt := 82) dX12_readWord_75 (by decide) (by first | assumption | exact hwf _ _ | exact dt_b32 _ | omega | exact ⟨by omega, by omega⟩ | decide | exact ⟨by simp (disch := omega) only [dt_up_s, dt_up_k, dt_up_n]; omega, by simp (disch := omega) only [dt_up_s, dt_up_k, dt_up_n]; omega⟩) (by first | assumption | exact hwf _ _ | exact dt_b32 _ | omega | exact ⟨by omega, by omega⟩ | decide | exact ⟨by simp (disch := omega) only [dt_up_s, dt_up_k, dt_up_n]; omega, by simp (disch := omega) only [dt_up_s, dt_up_k, dt_up_n]; omega⟩) (fun c49 => ?_) (fun c49 => ?_)
        · skip
          first | exact absurd c49 (by omega) | exact absurd c49 (by decide) | exact absurd rfl c49
        · skip
          refine dt_iconst dX12_readWord_78 ?_
          refine dt_goto (tgt := 83) dX12_readWord_79 (by decide) ?_
          refine dt_istore dX12_readWord_83 (by decide) rfl ?_
          dsimp only [List.set]
          refine dt_bipush dX12_readWord_85 (by decide) ?_
          refine dt_bipush dX12_readWord_87 (by decide) ?_
          refine dt_iloadn dX12_readWord_89 rfl rfl ?_
          refine dt_imul dX12_readWord_90 ?_
          refine dt_iadd dX12_readWord_91 ?_
          refine dt_iconst dX12_readWord_92 ?_
          refine dt_wfV fun hwf => ?_
          refine dt_aloadn dX12_readWord_93 rfl rfl ?_
          refine dt_getR dX12_readWord_94 pg_X12_22_12 rfl rfl ?_
          refine dt_iconst dX12_readWord_97 ?_
          refine dt_iloadn dX12_readWord_98 rfl rfl ?_
          refine dt_iadd dX12_readWord_99 ?_
          refine dt_iald dX12_readWord_100 rfl (by first | omega | (simp (disch := omega) only [dt_up_s, dt_up_k, dt_up_n]; omega)) (by first | omega | (simp (disch := omega) only [dt_up_s, dt_up_k, dt_up_n]; omega)) (by decide) ?_
          refine dt_imul dX12_readWord_101 ?_
          refine dt_iadd dX12_readWord_102 ?_
          refine dt_istore dX12_readWord_103 (by decide) rfl ?_
          dsimp only [List.set]
          refine dt_iconst dX12_readWord_105 ?_
          refine dt_istore dX12_readWord_106 (by decide) rfl ?_
          dsimp only [List.set]
          refine dt_aloadn dX12_readWord_108 rfl rfl ?_
          refine dt_getI dX12_readWord_109 pg_X12_111_12 rfl rfl ?_
          refine dt_if_ne (tgt := 173) dX12_readWord_112 (by decide) (by first | assumption | exact hwf _ _ | exact dt_b32 _ | omega | exact ⟨by omega, by omega⟩ | decide | exact ⟨by simp (disch := omega) only [dt_up_s, dt_up_k, dt_up_n]; omega, by simp (disch := omega) only [dt_up_s, dt_up_k, dt_up_n]; omega⟩) (fun c50 => ?_) (fun c50 => ?_)
          · skip
            have hD := hZx
            have hfD := hfx
            refine dt_aloadn dX12_readWord_173 rfl rfl ?_
            refine dt_xV dX12_readWord_174 pc_X12_154 rfl (s_X12_mustEnd hD) rfl rfl ⟨by decide, by decide⟩ rfl rfl (Nat.le_of_ble_eq_true rfl) ⟨by decide, by decide⟩ ?_
            intro vz shz σz hqz
            obtain ⟨rfl, hsz, hfz, hZz⟩ := hqz
            obtain rfl := hsz.symm
            refine dt_wfV fun hwf => ?_
            obtain ⟨z1, z2, z3, z4⟩ := rZ.x hZz
            refine dt_aloadn dX12_readWord_177 rfl rfl ?_
            refine dt_getI dX12_readWord_178 pg_X12_111_12 rfl rfl ?_
            refine dt_if_ne (tgt := 215) dX12_readWord_181 (by decide) (by first | assumption | exact hwf _ _ | exact dt_b32 _ | omega | exact ⟨by omega, by omega⟩ | decide | exact ⟨by simp (disch := omega) only [dt_up_s, dt_up_k, dt_up_n]; omega, by simp (disch := omega) only [dt_up_s, dt_up_k, dt_up_n]; omega⟩) (fun c51 => ?_) (fun c51 => ?_)
            · skip
              refine dt_vret dX12_readWord_215 rfl (by decide) (by decide) ?_
              rw [he]
              exact ⟨rfl, rfl, hfD.tr hfz.h, hZz, fun q h => by cases h⟩
            · skip
              first | exact absurd c51 (by omega) | exact absurd c51 (by decide) | exact absurd rfl c51
          · skip
            first | exact absurd c50 (by omega) | exact absurd c50 (by decide) | exact absurd rfl c50
      · skip
        first | exact absurd c48 (by omega) | exact absurd c48 (by decide) | exact absurd rfl c48
    · skip
      first | exact absurd c47 (by omega) | exact absurd c47 (by decide) | exact absurd rfl c47
