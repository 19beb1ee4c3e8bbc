
theorem cK.of {σ σ1 : dt_Mem} {T : List Nat} {i : Nat} (hT : cTape σ T) (h : tF σ σ1) (hi : i ≤ T.length) (h1 : σ1 5 2 = (tk T i).1) (h2 : σ1 5 3 = (tk T i).2.1) (h3 : σ1 5 4 = (tk T i).2.2) : cK σ1 T (tk T i) := ⟨h.T hT, ⟨h1, h2, h3⟩, i, hi, rfl⟩
/-- what a reading may change: the notes of the token, the port that is read -/
def cF (σ σ1 : dt_Mem) : Prop := ∀ b k, (b < 13 ∨ 18 < b) → (b ≠ 5 ∨ k < 2) → σ1 b k = σ b k
theorem cF.refl (σ : dt_Mem) : cF σ σ := fun _ _ _ _ => rfl
theorem cF.tr {σ σ1 σ2 : dt_Mem} (h : cF σ σ1) (g : cF σ1 σ2) : cF σ σ2 := fun b k h1 h2 => (g b k h1 h2).trans (h b k h1 h2)
theorem tF.c {σ σ1 : dt_Mem} (h : tF σ σ1) : cF σ σ1 := fun b k _ h2 => h b k h2
theorem pF_c {σ σ1 : dt_Mem} (h : ∀ b, (b < 13 ∨ 13 + 5 < b) → σ1 b = σ b) : cF σ σ1 := fun b k h1 _ => by rw [h b (by omega)]
theorem tF.P {σ σ1 : dt_Mem} {X : dX} (h : tF σ σ1) (hX : cPort σ 13 X) : cPort σ1 13 X := hX.kept (fun b h1 h2 => funext fun k => h b k (by omega))
theorem cK.kept {σ σ1 : dt_Mem} {T : List Nat} {t : Tok} (h : cK σ T t) (e : ∀ b, (b < 13 ∨ 13 + 5 < b) → σ1 b = σ b) : cK σ1 T t := ⟨h.1.kept (by rw [e 5 (by omega)]) (e 6 (by omega)), by rw [e 5 (by omega)]; exact h.2.1, h.2.2⟩
def pF {α : Type} : pR α → Nat
  | .ok _ => 0
  | .error e => e.1
def cR {α : Type} (σ : dt_Mem) (r : pR α) (P : α → Prop) : Prop := match r with
  | .ok a => P a
  | .error e => 1 ≤ e.1 ∧ e.1 ≤ 3 ∧ σ 5 3 = e.2
theorem cR.c {α : Type} {σ : dt_Mem} {r : pR α} {P : α → Prop} (h : cR σ r P) : (pF r = 0 ∧ ∃ a, r = .ok a ∧ P a) ∨ (∃ e, r = .error e ∧ pF r = e.1 ∧ 1 ≤ e.1 ∧ e.1 ≤ 3 ∧ σ 5 3 = e.2) := by
  cases r with
  | ok a => exact Or.inl ⟨rfl, a, rfl, h⟩
  | error e => exact Or.inr ⟨e, rfl, rfl, h⟩
theorem cR.i {α : Type} {σ : dt_Mem} {r : pR α} {P : α → Prop} (h : cR σ r P) : dt_in32 ((pF r : Nat) : Int) := by
  rcases h.c with ⟨h0, -⟩ | ⟨e, -, h1, h2, h3, -⟩
  · exact ⟨by omega, by omega⟩
  · exact ⟨by omega, by omega⟩
theorem kTold_le (T : List Nat) (t : Tok) : kTold T t ≤ 5 := by
  unfold kTold
  repeat' split
  all_goals decide
theorem pReads_e {T : List Nat} {a k : Nat} {rs : List Nat} {t : Tok} (h : t.1 ≠ 2) (h2 : rs.length < a) : pReads T a (k + 1) rs t = .error (1, t.2.1) := by
  simp only [pReads]
  rw [if_pos h, if_pos h2]
theorem pReads_o {T : List Nat} {a k : Nat} {rs : List Nat} {t : Tok} (h : t.1 ≠ 2) (h2 : ¬ rs.length < a) : pReads T a (k + 1) rs t = .ok (rs, t) := by
  simp only [pReads]
  rw [if_pos h, if_neg h2]
theorem pReads_b {T : List Nat} {a k : Nat} {rs : List Nat} {t : Tok} (h : t.1 = 2) (h2 : nT T t < 1 ∨ 256 ≤ nT T t) : pReads T a (k + 1) rs t = .error (2, t.2.1) := by
  simp only [pReads]
  rw [if_neg (fun q => q h), if_pos h2]
theorem pReads_s {T : List Nat} {a k : Nat} {rs : List Nat} {t : Tok} (h : t.1 = 2) (h2 : ¬ (nT T t < 1 ∨ 256 ≤ nT T t)) : pReads T a (k + 1) rs t = pReads T a k (rs ++ [nT T t]) (tk T t.2.2) := by
  simp only [pReads]
  rw [if_neg (fun q => q h), if_neg h2]
def kLeast (k : Nat) : Nat := if k = 4 then 2 else 1
def kMost (k : Nat) : Nat := if 4 ≤ k then 3 else 1
theorem kLM (k : Nat) : 1 ≤ kLeast k ∧ kLeast k ≤ kMost k ∧ kMost k ≤ 3 := by
  unfold kLeast kMost
  by_cases h : k = 4
  · subst h; decide
  · by_cases g : 4 ≤ k
    · rw [if_neg h, if_pos g]; decide
    · rw [if_neg h, if_neg g]; decide
theorem pWord_f {T : List Nat} {n : Nat} {t : Tok} (h : 8 ≤ n) : pWord T n t = .error (3, t.2.1) := by
  unfold pWord
  rw [if_pos h]
theorem pWord_k {T : List Nat} {n : Nat} {t : Tok} (h : ¬ 8 ≤ n) (hk : kTold T (tk T t.2.2) = 0) : pWord T n t = .error (1, (tk T t.2.2).2.1) := by
  unfold pWord
  rw [if_neg h, if_pos hk]
theorem pWord_r {T : List Nat} {n : Nat} {t : Tok} {e : Nat × Nat} (h : ¬ 8 ≤ n) (hk : ¬ kTold T (tk T t.2.2) = 0) (hr : pReads T (kLeast (kTold T (tk T t.2.2))) (kMost (kTold T (tk T t.2.2))) [] (tk T (tk T t.2.2).2.2) = .error e) : pWord T n t = .error e := by
  unfold pWord
  rw [if_neg h, if_neg hk]
  unfold kLeast kMost at hr
  rw [hr]
theorem pWord_e {T : List Nat} {n : Nat} {t u : Tok} {rs : List Nat} {e : Nat × Nat} (h : ¬ 8 ≤ n) (hk : ¬ kTold T (tk T t.2.2) = 0) (hr : pReads T (kLeast (kTold T (tk T t.2.2))) (kMost (kTold T (tk T t.2.2))) [] (tk T (tk T t.2.2).2.2) = .ok (rs, u)) (hs : pSemi T u = .error e) : pWord T n t = .error e := by
  unfold pWord
  rw [if_neg h, if_neg hk]
  unfold kLeast kMost at hr
  rw [hr]
  simp only [hs]
theorem pWord_o {T : List Nat} {n : Nat} {t u u2 : Tok} {rs : List Nat} (h : ¬ 8 ≤ n) (hk : ¬ kTold T (tk T t.2.2) = 0) (hr : pReads T (kLeast (kTold T (tk T t.2.2))) (kMost (kTold T (tk T t.2.2))) [] (tk T (tk T t.2.2).2.2) = .ok (rs, u)) (hs : pSemi T u = .ok u2) : pWord T n t = .ok ((kTold T (tk T t.2.2), rs), u2) := by
  unfold pWord
  rw [if_neg h, if_neg hk]
  unfold kLeast kMost at hr
  rw [hr]
  simp only [hs]
theorem pWords_n {T : List Nat} {f : Nat} {tg : List (Nat × List Nat)} {t : Tok} (h : ¬ isN T t 1 = true) : pWords T (f + 1) tg t = .ok (tg, t) := by
  simp only [pWords]
  rw [if_neg h]
theorem pWords_e {T : List Nat} {f : Nat} {tg : List (Nat × List Nat)} {t : Tok} {e : Nat × Nat} (h : isN T t 1 = true) (hw : pWord T tg.length t = .error e) : pWords T (f + 1) tg t = .error e := by
  simp only [pWords]
  rw [if_pos h, hw]
theorem pWords_s {T : List Nat} {f : Nat} {tg : List (Nat × List Nat)} {t u : Tok} {q : Nat × List Nat} (h : isN T t 1 = true) (hw : pWord T tg.length t = .ok (q, u)) : pWords T (f + 1) tg t = pWords T f (tg ++ [q]) u := by
  simp only [pWords]
  rw [if_pos h, hw]
theorem pTongue_f {T : List Nat} {n : Nat} {t : Tok} (h : 7 ≤ n) : pTongue T n t = .error (3, t.2.1) := by
  unfold pTongue
  rw [if_pos h]
theorem pTongue_e {T : List Nat} {n : Nat} {t : Tok} {e : Nat × Nat} (h : ¬ 7 ≤ n) (hs : pSemi T (tk T t.2.2) = .error e) : pTongue T n t = .error e := by
  unfold pTongue
  rw [if_neg h, hs]
theorem pTongue_o {T : List Nat} {n : Nat} {t u : Tok} (h : ¬ 7 ≤ n) (hs : pSemi T (tk T t.2.2) = .ok u) : pTongue T n t = pWords T 9 [] u := by
  unfold pTongue
  rw [if_neg h, hs]
theorem pTongues_n {T : List Nat} {f : Nat} {Ts : List (List (Nat × List Nat))} {t : Tok} (h : ¬ isN T t 0 = true) : pTongues T (f + 1) Ts t = .ok (Ts, t) := by
  simp only [pTongues]
  rw [if_neg h]
theorem pTongues_e {T : List Nat} {f : Nat} {Ts : List (List (Nat × List Nat))} {t : Tok} {e : Nat × Nat} (h : isN T t 0 = true) (hw : pTongue T Ts.length t = .error e) : pTongues T (f + 1) Ts t = .error e := by
  simp only [pTongues]
  rw [if_pos h, hw]
theorem pTongues_s {T : List Nat} {f : Nat} {Ts : List (List (Nat × List Nat))} {t u : Tok} {q : List (Nat × List Nat)} (h : isN T t 0 = true) (hw : pTongue T Ts.length t = .ok (q, u)) : pTongues T (f + 1) Ts t = pTongues T f (Ts ++ [q]) u := by
  simp only [pTongues]
  rw [if_pos h, hw]
theorem pPerson_f {T : List Nat} {m n : Nat} {t : Tok} (h : 8 ≤ n) : pPerson T m n t = .error (3, t.2.1) := by
  unfold pPerson
  rw [if_pos h]
theorem pPerson_n {T : List Nat} {m n : Nat} {t : Tok} (h : ¬ 8 ≤ n) (h2 : (tk T t.2.2).1 ≠ 2) : pPerson T m n t = .error (1, (tk T t.2.2).2.1) := by
  unfold pPerson
  rw [if_neg h, if_pos h2]
theorem pPerson_b {T : List Nat} {m n : Nat} {t : Tok} (h : ¬ 8 ≤ n) (h2 : (tk T t.2.2).1 = 2) (h3 : 2 ^ m ≤ nT T (tk T t.2.2)) : pPerson T m n t = .error (2, (tk T t.2.2).2.1) := by
  unfold pPerson
  rw [if_neg h, if_neg (fun q => q h2), if_pos h3]
theorem pPerson_e {T : List Nat} {m n : Nat} {t : Tok} {e : Nat × Nat} (h : ¬ 8 ≤ n) (h2 : (tk T t.2.2).1 = 2) (h3 : ¬ 2 ^ m ≤ nT T (tk T t.2.2)) (hs : pSemi T (tk T (tk T t.2.2).2.2) = .error e) : pPerson T m n t = .error e := by
  unfold pPerson
  rw [if_neg h, if_neg (fun q => q h2), if_neg h3, hs]
theorem pPerson_o {T : List Nat} {m n : Nat} {t u : Tok} (h : ¬ 8 ≤ n) (h2 : (tk T t.2.2).1 = 2) (h3 : ¬ 2 ^ m ≤ nT T (tk T t.2.2)) (hs : pSemi T (tk T (tk T t.2.2).2.2) = .ok u) : pPerson T m n t = .ok (nT T (tk T t.2.2), u) := by
  unfold pPerson
  rw [if_neg h, if_neg (fun q => q h2), if_neg h3, hs]
theorem pPersons_n {T : List Nat} {m f : Nat} {Ps : List Nat} {t : Tok} (h : ¬ isN T t 7 = true) : pPersons T m (f + 1) Ps t = .ok (Ps, t) := by
  simp only [pPersons]
  rw [if_neg h]
theorem pPersons_e {T : List Nat} {m f : Nat} {Ps : List Nat} {t : Tok} {e : Nat × Nat} (h : isN T t 7 = true) (hw : pPerson T m Ps.length t = .error e) : pPersons T m (f + 1) Ps t = .error e := by
  simp only [pPersons]
  rw [if_pos h, hw]
theorem pPersons_s {T : List Nat} {m f q : Nat} {Ps : List Nat} {t u : Tok} (h : isN T t 7 = true) (hw : pPerson T m Ps.length t = .ok (q, u)) : pPersons T m (f + 1) Ps t = pPersons T m f (Ps ++ [q]) u := by
  simp only [pPersons]
  rw [if_pos h, hw]
theorem pPort_0 {T : List Nat} (h : ¬ isN T (tk T 0) 0 = true) : pPort T = .error (1, (tk T 0).2.1) := by
  unfold pPort
  rw [if_pos h]
theorem pPort_t {T : List Nat} {e : Nat × Nat} (h : isN T (tk T 0) 0 = true) (h1 : pTongues T 8 [] (tk T 0) = .error e) : pPort T = .error e := by
  unfold pPort
  rw [if_neg (fun q => q h), h1]
theorem pPort_p {T : List Nat} {e : Nat × Nat} {Ts : List (List (Nat × List Nat))} {t : Tok} (h : isN T (tk T 0) 0 = true) (h1 : pTongues T 8 [] (tk T 0) = .ok (Ts, t)) (h2 : pPersons T Ts.length 9 [] t = .error e) : pPort T = .error e := by
  unfold pPort
  rw [if_neg (fun q => q h), h1]
  simp only [h2]
theorem pPort_x {T : List Nat} {Ts : List (List (Nat × List Nat))} {t u : Tok} {Ps : List Nat} (h : isN T (tk T 0) 0 = true) (h1 : pTongues T 8 [] (tk T 0) = .ok (Ts, t)) (h2 : pPersons T Ts.length 9 [] t = .ok (Ps, u)) (h3 : ¬ u.1 = 0) : pPort T = .error (1, u.2.1) := by
  unfold pPort
  rw [if_neg (fun q => q h), h1]
  simp only [h2]
  rw [if_neg h3]
theorem pPort_o {T : List Nat} {Ts : List (List (Nat × List Nat))} {t u : Tok} {Ps : List Nat} (h : isN T (tk T 0) 0 = true) (h1 : pTongues T 8 [] (tk T 0) = .ok (Ts, t)) (h2 : pPersons T Ts.length 9 [] t = .ok (Ps, u)) (h3 : u.1 = 0) : pPort T = .ok (Ts, Ps) := by
  unfold pPort
  rw [if_neg (fun q => q h), h1]
  simp only [h2]
  rw [if_pos h3]
theorem cR_e {α : Type} {σ : dt_Mem} {P : α → Prop} {k p : Nat} (h1 : 1 ≤ k) (h2 : k ≤ 3) (h3 : σ 5 3 = p) : cR σ (.error (k, p) : pR α) P := ⟨h1, h2, h3⟩
theorem cK.n {σ : dt_Mem} {T : List Nat} {t : Tok} (h : cK σ T t) (h2 : t.1 = 2) : nT T t < 1000 := by
  obtain ⟨k1, k2, k3, k4, k5⟩ := h.ok
  obtain ⟨k6, k7⟩ := k4 h2
  have h := nV_le T t.2.1 (t.2.2 - t.2.1) (fun k hk => by
    obtain ⟨y, hy, -, y2⟩ := k7 (t.2.1 + k) (by omega) (by omega)
    rw [dt_gd hy]; exact y2)
  exact Nat.lt_of_lt_of_le h (Nat.pow_le_pow_right (by decide) k6)
/-- while words are read -/
def jWs (σ : dt_Mem) (T : List Nat) (t : Tok) (Ts : List (List (Nat × List Nat))) (Y : List Nat × Nat) (i f : Nat) : Prop := (f = 0 ∧ ∃ tg t1, tg.length = i ∧ cK σ T t1 ∧ cPort σ 13 (Ts ++ [tg], Y) ∧ pTongue T Ts.length t = pWords T (9 - i) tg t1) ∨ ∃ e, pTongue T Ts.length t = .error e ∧ f = e.1 ∧ 1 ≤ e.1 ∧ e.1 ≤ 3 ∧ σ 5 3 = e.2
theorem s_X9_readSemicolon {ex : List dt_Shp} {σ : dt_Mem} {T : List Nat} {t : Tok} (hK : cK σ T t) : dt_Sp mX9_readSemicolon 2 0 0 [dt_R 5] (dt_SH ++ ex) σ (fun v sh2 σ2 => v = some (dt_I ((pF (pSemi T t) : Nat) : Int)) ∧ sh2 = dt_SH ++ ex ∧ tF σ σ2 ∧ cR σ2 (pSemi T t) (fun u => cK σ2 T u)) := by
  refine dt_Sp_of (by decide) (Nat.le_of_ble_eq_true rfl) ?_
  refine dt_wfV fun hwf => ?_
  obtain ⟨k1, k2, k3, k4, k5⟩ := hK.ok
  obtain ⟨hT, ⟨s1, s2, s3⟩, -⟩ := id hK
  have e1 := hT.2.2.1
  have e2 := hT.1
  show dt_V _ _ _ 0 0 0 [some (dt_R 5)] [] _ _
  refine dt_aloadn dX9_readSemicolon_0 rfl rfl ?_
  refine dt_getI dX9_readSemicolon_1 pg_X9_28_9 rfl rfl ?_
  refine dt_iconst dX9_readSemicolon_4 ?_
  refine dt_cm_eq (tgt := 10) dX9_readSemicolon_5 (by decide) (by first | assumption | exact hwf _ _ | exact dt_b32 _ | omega | exact ⟨by omega, by omega⟩ | decide | exact ⟨by simp (disch := omega) only [dt_up_s, dt_up_k, dt_up_n]; omega, by simp (disch := omega) only [dt_up_s, dt_up_k, dt_up_n]; omega⟩) (by first | assumption | exact hwf _ _ | exact dt_b32 _ | omega | exact ⟨by omega, by omega⟩ | decide | exact ⟨by simp (disch := omega) only [dt_up_s, dt_up_k, dt_up_n]; omega, by simp (disch := omega) only [dt_up_s, dt_up_k, dt_up_n]; omega⟩) (fun c1 => ?_) (fun c1 => ?_)
  · skip
    refine dt_aloadn dX9_readSemicolon_10 rfl rfl ?_
    refine dt_xV dX9_readSemicolon_11 pc_X9_36 rfl (s_X9_next hK.1 hK.2.1.2.2 hK.ok.2.1) rfl rfl ⟨by decide, by decide⟩ rfl rfl (Nat.le_of_ble_eq_true rfl) ⟨by decide, by decide⟩ ?_
    intro v1 sh1 σ1 hq1
    obtain ⟨rfl, hs1, hf1, ha1, hb1, hc1⟩ := hq1
    obtain rfl := hs1.symm
    have hK1 := cK.of hK.1 hf1 hK.ok.2.1 ha1 hb1 hc1
    refine dt_iconst dX9_readSemicolon_14 ?_
    refine dt_iret dX9_readSemicolon_15 rfl (by decide) (by decide) ?_
    have e : pSemi T t = .ok (tk T t.2.2) := if_pos (by omega)
    rw [e]
    exact ⟨rfl, rfl, hf1, hK1⟩
  · skip
    refine dt_iconst dX9_readSemicolon_8 ?_
    refine dt_iret dX9_readSemicolon_9 rfl (by decide) (by decide) ?_
    have e : pSemi T t = .error (1, t.2.1) := if_neg (by omega)
    rw [e]
    exact ⟨rfl, rfl, fun _ _ _ => rfl, cR_e (by decide) (by decide) s2⟩
theorem s_X9_kindTold {ex : List dt_Shp} {σ : dt_Mem} {T : List Nat} {t : Tok} (hK : cK σ T t) : dt_Sp mX9_kindTold 5 0 0 [dt_R 5] (dt_SH ++ ex) σ (fun v sh2 σ2 => v = some (dt_I ((kTold T t : Nat) : Int)) ∧ sh2 = dt_SH ++ ex ∧ σ2 = σ) := by
  refine dt_Sp_of (by decide) (Nat.le_of_ble_eq_true rfl) ?_
  refine dt_wfV fun hwf => ?_
  show dt_V _ _ _ 0 0 0 [some (dt_R 5)] [] _ _
  refine dt_aloadn dX9_kindTold_0 rfl rfl ?_
  refine dt_ldcS 2 dX9_kindTold_1 (by decide) rfl rfl ?_
  refine dt_xV dX9_kindTold_3 pc_X9_41 rfl (s_X9_isName hK (show 2 < 8 by decide)) rfl rfl ⟨by decide, by decide⟩ rfl rfl (Nat.le_of_ble_eq_true rfl) ⟨by decide, by decide⟩ (dt_k3 ?_)
  refine dt_if_eq (tgt := 11) dX9_kindTold_6 (by decide) (by first | assumption | exact hwf _ _ | exact dt_b32 _ | omega | exact ⟨by omega, by omega⟩ | decide | exact ⟨by simp (disch := omega) only [dt_up_s, dt_up_k, dt_up_n]; omega, by simp (disch := omega) only [dt_up_s, dt_up_k, dt_up_n]; omega⟩) (fun c1 => ?_) (fun c1 => ?_)
  · skip
    try simp only [dt_b0, dt_b1, Decidable.not_not, Classical.not_not] at c1
    refine dt_aloadn dX9_kindTold_11 rfl rfl ?_
    refine dt_ldcS 3 dX9_kindTold_12 (by decide) rfl rfl ?_
    refine dt_xV dX9_kindTold_14 pc_X9_41 rfl (s_X9_isName hK (show 3 < 8 by decide)) rfl rfl ⟨by decide, by decide⟩ rfl rfl (Nat.le_of_ble_eq_true rfl) ⟨by decide, by decide⟩ (dt_k3 ?_)
    refine dt_if_eq (tgt := 22) dX9_kindTold_17 (by decide) (by first | assumption | exact hwf _ _ | exact dt_b32 _ | omega | exact ⟨by omega, by omega⟩ | decide | exact ⟨by simp (disch := omega) only [dt_up_s, dt_up_k, dt_up_n]; omega, by simp (disch := omega) only [dt_up_s, dt_up_k, dt_up_n]; omega⟩) (fun c2 => ?_) (fun c2 => ?_)
    · skip
      try simp only [dt_b0, dt_b1, Decidable.not_not, Classical.not_not] at c2
      refine dt_aloadn dX9_kindTold_22 rfl rfl ?_
      refine dt_ldcS 4 dX9_kindTold_23 (by decide) rfl rfl ?_
      refine dt_xV dX9_kindTold_25 pc_X9_41 rfl (s_X9_isName hK (show 4 < 8 by decide)) rfl rfl ⟨by decide, by decide⟩ rfl rfl (Nat.le_of_ble_eq_true rfl) ⟨by decide, by decide⟩ (dt_k3 ?_)
      refine dt_if_eq (tgt := 33) dX9_kindTold_28 (by decide) (by first | assumption | exact hwf _ _ | exact dt_b32 _ | omega | exact ⟨by omega, by omega⟩ | decide | exact ⟨by simp (disch := omega) only [dt_up_s, dt_up_k, dt_up_n]; omega, by simp (disch := omega) only [dt_up_s, dt_up_k, dt_up_n]; omega⟩) (fun c3 => ?_) (fun c3 => ?_)
      · skip
        try simp only [dt_b0, dt_b1, Decidable.not_not, Classical.not_not] at c3
        refine dt_aloadn dX9_kindTold_33 rfl rfl ?_
        refine dt_ldcS 5 dX9_kindTold_34 (by decide) rfl rfl ?_
        refine dt_xV dX9_kindTold_36 pc_X9_41 rfl (s_X9_isName hK (show 5 < 8 by decide)) rfl rfl ⟨by decide, by decide⟩ rfl rfl (Nat.le_of_ble_eq_true rfl) ⟨by decide, by decide⟩ (dt_k3 ?_)
        refine dt_if_eq (tgt := 44) dX9_kindTold_39 (by decide) (by first | assumption | exact hwf _ _ | exact dt_b32 _ | omega | exact ⟨by omega, by omega⟩ | decide | exact ⟨by simp (disch := omega) only [dt_up_s, dt_up_k, dt_up_n]; omega, by simp (disch := omega) only [dt_up_s, dt_up_k, dt_up_n]; omega⟩) (fun c4 => ?_) (fun c4 => ?_)
        · skip
          try simp only [dt_b0, dt_b1, Decidable.not_not, Classical.not_not] at c4
          refine dt_aloadn dX9_kindTold_44 rfl rfl ?_
          refine dt_ldcS 6 dX9_kindTold_45 (by decide) rfl rfl ?_
          refine dt_xV dX9_kindTold_47 pc_X9_41 rfl (s_X9_isName hK (show 6 < 8 by decide)) rfl rfl ⟨by decide, by decide⟩ rfl rfl (Nat.le_of_ble_eq_true rfl) ⟨by decide, by decide⟩ (dt_k3 ?_)
          refine dt_if_eq (tgt := 57) dX9_kindTold_50 (by decide) (by first | assumption | exact hwf _ _ | exact dt_b32 _ | omega | exact ⟨by omega, by omega⟩ | decide | exact ⟨by simp (disch := omega) only [dt_up_s, dt_up_k, dt_up_n]; omega, by simp (disch := omega) only [dt_up_s, dt_up_k, dt_up_n]; omega⟩) (fun c5 => ?_) (fun c5 => ?_)
          · skip
            try simp only [dt_b0, dt_b1, Decidable.not_not, Classical.not_not] at c5
            refine dt_iconst dX9_kindTold_57 ?_
            refine dt_iret dX9_kindTold_58 rfl (by decide) (by decide) ?_
            unfold kTold
            first | (rw [if_pos c1]; exact ⟨rfl, rfl, rfl⟩) | (rw [if_neg c1, if_pos c2]; exact ⟨rfl, rfl, rfl⟩) | (rw [if_neg c1, if_neg c2, if_pos c3]; exact ⟨rfl, rfl, rfl⟩) | (rw [if_neg c1, if_neg c2, if_neg c3, if_pos c4]; exact ⟨rfl, rfl, rfl⟩) | (rw [if_neg c1, if_neg c2, if_neg c3, if_neg c4, if_pos c5]; exact ⟨rfl, rfl, rfl⟩) | (rw [if_neg c1, if_neg c2, if_neg c3, if_neg c4, if_neg c5]; exact ⟨rfl, rfl, rfl⟩)
          · skip
            try simp only [dt_b0, dt_b1, Decidable.not_not, Classical.not_not] at c5
            refine dt_iconst dX9_kindTold_53 ?_
            refine dt_goto (tgt := 58) dX9_kindTold_54 (by decide) ?_
            refine dt_iret dX9_kindTold_58 rfl (by decide) (by decide) ?_
            unfold kTold
            first | (rw [if_pos c1]; exact ⟨rfl, rfl, rfl⟩) | (rw [if_neg c1, if_pos c2]; exact ⟨rfl, rfl, rfl⟩) | (rw [if_neg c1, if_neg c2, if_pos c3]; exact ⟨rfl, rfl, rfl⟩) | (rw [if_neg c1, if_neg c2, if_neg c3, if_pos c4]; exact ⟨rfl, rfl, rfl⟩) | (rw [if_neg c1, if_neg c2, if_neg c3, if_neg c4, if_pos c5]; exact ⟨rfl, rfl, rfl⟩) | (rw [if_neg c1, if_neg c2, if_neg c3, if_neg c4, if_neg c5]; exact ⟨rfl, rfl, rfl⟩)
        · skip
          try simp only [dt_b0, dt_b1, Decidable.not_not, Classical.not_not] at c4
          refine dt_iconst dX9_kindTold_42 ?_
          refine dt_iret dX9_kindTold_43 rfl (by decide) (by decide) ?_
          unfold kTold
          first | (rw [if_pos c1]; exact ⟨rfl, rfl, rfl⟩) | (rw [if_neg c1, if_pos c2]; exact ⟨rfl, rfl, rfl⟩) | (rw [if_neg c1, if_neg c2, if_pos c3]; exact ⟨rfl, rfl, rfl⟩) | (rw [if_neg c1, if_neg c2, if_neg c3, if_pos c4]; exact ⟨rfl, rfl, rfl⟩) | (rw [if_neg c1, if_neg c2, if_neg c3, if_neg c4, if_pos c5]; exact ⟨rfl, rfl, rfl⟩) | (rw [if_neg c1, if_neg c2, if_neg c3, if_neg c4, if_neg c5]; exact ⟨rfl, rfl, rfl⟩)
      · skip
        try simp only [dt_b0, dt_b1, Decidable.not_not, Classical.not_not] at c3
        refine dt_iconst dX9_kindTold_31 ?_
        refine dt_iret dX9_kindTold_32 rfl (by decide) (by decide) ?_
        unfold kTold
        first | (rw [if_pos c1]; exact ⟨rfl, rfl, rfl⟩) | (rw [if_neg c1, if_pos c2]; exact ⟨rfl, rfl, rfl⟩) | (rw [if_neg c1, if_neg c2, if_pos c3]; exact ⟨rfl, rfl, rfl⟩) | (rw [if_neg c1, if_neg c2, if_neg c3, if_pos c4]; exact ⟨rfl, rfl, rfl⟩) | (rw [if_neg c1, if_neg c2, if_neg c3, if_neg c4, if_pos c5]; exact ⟨rfl, rfl, rfl⟩) | (rw [if_neg c1, if_neg c2, if_neg c3, if_neg c4, if_neg c5]; exact ⟨rfl, rfl, rfl⟩)
    · skip
      try simp only [dt_b0, dt_b1, Decidable.not_not, Classical.not_not] at c2
      refine dt_iconst dX9_kindTold_20 ?_
      refine dt_iret dX9_kindTold_21 rfl (by decide) (by decide) ?_
      unfold kTold
      first | (rw [if_pos c1]; exact ⟨rfl, rfl, rfl⟩) | (rw [if_neg c1, if_pos c2]; exact ⟨rfl, rfl, rfl⟩) | (rw [if_neg c1, if_neg c2, if_pos c3]; exact ⟨rfl, rfl, rfl⟩) | (rw [if_neg c1, if_neg c2, if_neg c3, if_pos c4]; exact ⟨rfl, rfl, rfl⟩) | (rw [if_neg c1, if_neg c2, if_neg c3, if_neg c4, if_pos c5]; exact ⟨rfl, rfl, rfl⟩) | (rw [if_neg c1, if_neg c2, if_neg c3, if_neg c4, if_neg c5]; exact ⟨rfl, rfl, rfl⟩)
  · skip
    try simp only [dt_b0, dt_b1, Decidable.not_not, Classical.not_not] at c1
    refine dt_iconst dX9_kindTold_9 ?_
    refine dt_iret dX9_kindTold_10 rfl (by decide) (by decide) ?_
    unfold kTold
    first | (rw [if_pos c1]; exact ⟨rfl, rfl, rfl⟩) | (rw [if_neg c1, if_pos c2]; exact ⟨rfl, rfl, rfl⟩) | (rw [if_neg c1, if_neg c2, if_pos c3]; exact ⟨rfl, rfl, rfl⟩) | (rw [if_neg c1, if_neg c2, if_neg c3, if_pos c4]; exact ⟨rfl, rfl, rfl⟩) | (rw [if_neg c1, if_neg c2, if_neg c3, if_neg c4, if_pos c5]; exact ⟨rfl, rfl, rfl⟩) | (rw [if_neg c1, if_neg c2, if_neg c3, if_neg c4, if_neg c5]; exact ⟨rfl, rfl, rfl⟩)
theorem s_X9_leastReadings {sh : List dt_Shp} {σ : dt_Mem} {k : Nat} (hk : k ≤ 5) : dt_Sp mX9_leastReadings 0 0 0 [dt_I (k : Int)] sh σ (fun v sh2 σ2 => v = some (dt_I ((kLeast k : Nat) : Int)) ∧ sh2 = sh ∧ σ2 = σ) := by
  refine dt_Sp_of (by decide) (Nat.le_of_ble_eq_true rfl) ?_
  refine dt_wfV fun hwf => ?_
  show dt_V _ _ _ 0 0 0 [some (dt_I (k : Int))] [] _ _
  refine dt_iloadn dX9_leastReadings_0 rfl rfl ?_
  refine dt_iconst dX9_leastReadings_1 ?_
  refine dt_cm_ne (tgt := 9) dX9_leastReadings_2 (by decide) (by first | assumption | exact hwf _ _ | exact dt_b32 _ | omega | exact ⟨by omega, by omega⟩ | decide | exact ⟨by simp (disch := omega) only [dt_up_s, dt_up_k, dt_up_n]; omega, by simp (disch := omega) only [dt_up_s, dt_up_k, dt_up_n]; omega⟩) (by first | assumption | exact hwf _ _ | exact dt_b32 _ | omega | exact ⟨by omega, by omega⟩ | decide | exact ⟨by simp (disch := omega) only [dt_up_s, dt_up_k, dt_up_n]; omega, by simp (disch := omega) only [dt_up_s, dt_up_k, dt_up_n]; omega⟩) (fun c1 => ?_) (fun c1 => ?_)
  · skip
    refine dt_iconst dX9_leastReadings_9 ?_
    refine dt_iret dX9_leastReadings_10 rfl (by decide) (by decide) ?_
    first | exact ⟨by rw [show kLeast k = 2 from if_pos (by omega)]; rfl, rfl, rfl⟩ | exact ⟨by rw [show kLeast k = 1 from if_neg (by omega)]; rfl, rfl, rfl⟩
  · skip
    refine dt_iconst dX9_leastReadings_5 ?_
    refine dt_goto (tgt := 10) dX9_leastReadings_6 (by decide) ?_
    refine dt_iret dX9_leastReadings_10 rfl (by decide) (by decide) ?_
    first | exact ⟨by rw [show kLeast k = 2 from if_pos (by omega)]; rfl, rfl, rfl⟩ | exact ⟨by rw [show kLeast k = 1 from if_neg (by omega)]; rfl, rfl, rfl⟩
theorem s_X9_mostReadings {sh : List dt_Shp} {σ : dt_Mem} {k : Nat} (hk : k ≤ 5) : dt_Sp mX9_mostReadings 0 0 0 [dt_I (k : Int)] sh σ (fun v sh2 σ2 => v = some (dt_I ((kMost k : Nat) : Int)) ∧ sh2 = sh ∧ σ2 = σ) := by
  refine dt_Sp_of (by decide) (Nat.le_of_ble_eq_true rfl) ?_
  refine dt_wfV fun hwf => ?_
  show dt_V _ _ _ 0 0 0 [some (dt_I (k : Int))] [] _ _
  refine dt_iloadn dX9_mostReadings_0 rfl rfl ?_
  refine dt_iconst dX9_mostReadings_1 ?_
  refine dt_cm_eq (tgt := 10) dX9_mostReadings_2 (by decide) (by first | assumption | exact hwf _ _ | exact dt_b32 _ | omega | exact ⟨by omega, by omega⟩ | decide | exact ⟨by simp (disch := omega) only [dt_up_s, dt_up_k, dt_up_n]; omega, by simp (disch := omega) only [dt_up_s, dt_up_k, dt_up_n]; omega⟩) (by first | assumption | exact hwf _ _ | exact dt_b32 _ | omega | exact ⟨by omega, by omega⟩ | decide | exact ⟨by simp (disch := omega) only [dt_up_s, dt_up_k, dt_up_n]; omega, by simp (disch := omega) only [dt_up_s, dt_up_k, dt_up_n]; omega⟩) (fun c1 => ?_) (fun c1 => ?_)
  · skip
    refine dt_iconst dX9_mostReadings_10 ?_
    refine dt_goto (tgt := 15) dX9_mostReadings_11 (by decide) ?_
    refine dt_iret dX9_mostReadings_15 rfl (by decide) (by decide) ?_
    first | exact ⟨by rw [show kMost k = 3 from if_pos (by omega)]; rfl, rfl, rfl⟩ | exact ⟨by rw [show kMost k = 1 from if_neg (by omega)]; rfl, rfl, rfl⟩
  · skip
    refine dt_iloadn dX9_mostReadings_5 rfl rfl ?_
    refine dt_iconst dX9_mostReadings_6 ?_
    refine dt_cm_ne (tgt := 14) dX9_mostReadings_7 (by decide) (by first | assumption | exact hwf _ _ | exact dt_b32 _ | omega | exact ⟨by omega, by omega⟩ | decide | exact ⟨by simp (disch := omega) only [dt_up_s, dt_up_k, dt_up_n]; omega, by simp (disch := omega) only [dt_up_s, dt_up_k, dt_up_n]; omega⟩) (by first | assumption | exact hwf _ _ | exact dt_b32 _ | omega | exact ⟨by omega, by omega⟩ | decide | exact ⟨by simp (disch := omega) only [dt_up_s, dt_up_k, dt_up_n]; omega, by simp (disch := omega) only [dt_up_s, dt_up_k, dt_up_n]; omega⟩) (fun c2 => ?_) (fun c2 => ?_)
    · skip
      refine dt_iconst dX9_mostReadings_14 ?_
      refine dt_iret dX9_mostReadings_15 rfl (by decide) (by decide) ?_
      first | exact ⟨by rw [show kMost k = 3 from if_pos (by omega)]; rfl, rfl, rfl⟩ | exact ⟨by rw [show kMost k = 1 from if_neg (by omega)]; rfl, rfl, rfl⟩
    · skip
      refine dt_iconst dX9_mostReadings_10 ?_
      refine dt_goto (tgt := 15) dX9_mostReadings_11 (by decide) ?_
      refine dt_iret dX9_mostReadings_15 rfl (by decide) (by decide) ?_
      first | exact ⟨by rw [show kMost k = 3 from if_pos (by omega)]; rfl, rfl, rfl⟩ | exact ⟨by rw [show kMost k = 1 from if_neg (by omega)]; rfl, rfl, rfl⟩
theorem s_X9_readReadings {ex : List dt_Shp} {σ : dt_Mem} {T : List Nat} {t : Tok} {kd least most : Nat} {Ts : List (List (Nat × List Nat))} {tg : List (Nat × List Nat)} {Y : List Nat × Nat} (hK : cK σ T t) (hX : cPort σ 13 (Ts ++ [tg ++ [(kd, [])]], Y)) (hm : least ≤ most ∧ most ≤ 3) : dt_Sp mX9_readReadings 3 0 0 [dt_R 5, dt_R 13, dt_I (least : Int), dt_I (most : Int)] (dt_SH ++ ex) σ (fun v sh2 σ2 => v = some (dt_I ((pF (pReads T least most [] t) : Nat) : Int)) ∧ sh2 = dt_SH ++ ex ∧ cF σ σ2 ∧ cR σ2 (pReads T least most [] t) (fun q => cK σ2 T q.2 ∧ cPort σ2 13 (Ts ++ [tg ++ [(kd, q.1)]], Y))) := by
  refine dt_Sp_of (by decide) (Nat.le_of_ble_eq_true rfl) ?_
  refine dt_wfV fun hwf => ?_
  obtain ⟨k1, k2, k3, k4, k5⟩ := hK.ok
  obtain ⟨hT, ⟨s1, s2, s3⟩, -⟩ := id hK
  have e1 := hT.2.2.1
  have e2 := hT.1
  show dt_V _ _ _ 0 0 0 [some (dt_R 5), some (dt_R 13), some (dt_I (least : Int)), some (dt_I (most : Int)), none, none] [] _ _
  refine dt_iconst dX9_readReadings_0 ?_
  refine dt_istore dX9_readReadings_1 (by decide) rfl ?_
  dsimp only [List.set]
  have lp3 : ∀ (fu : Nat) (rs : List Nat) (t1 : Tok) (σ1 : dt_Mem), (most : Int) - rs.length < (fu : Int) → (rs.length ≤ most) → (cK σ1 T t1) → (cPort σ1 13 (Ts ++ [tg ++ [(kd, rs)]], Y)) → (cF σ σ1) → (pReads T least (most - rs.length) rs t1 = pReads T least most [] t) →  dt_V mX9_readReadings (dt_rm 3 0 0) (dt_MC (fun v sh2 σ2 => v = some (dt_I ((pF (pReads T least most [] t) : Nat) : Int)) ∧ sh2 = dt_SH ++ ex ∧ cF σ σ2 ∧ cR σ2 (pReads T least most [] t) (fun q => cK σ2 T q.2 ∧ cPort σ2 13 (Ts ++ [tg ++ [(kd, q.1)]], Y))) 0 0) 0 0 3 [some (dt_R 5), some (dt_R 13), some (dt_I (least : Int)), some (dt_I (most : Int)), some (dt_I (rs.length : Int)), none] [] (dt_SH ++ ex) σ1 := by
    intro fu
    induction fu with
    | zero =>
      intro rs t1 σ1 hm jl jK jX jf jr
      exfalso
      omega
    | succ fu ih =>
      intro rs t1 σ1 hm jl jK jX jf jr
      refine dt_wfV fun hwf => ?_
      obtain ⟨jT, ⟨js1, js2, js3⟩, -⟩ := id jK
      refine dt_iload dX9_readReadings_3 rfl ?_
      refine dt_iloadn dX9_readReadings_5 rfl rfl ?_
      refine dt_cm_ge (tgt := 67) dX9_readReadings_6 (by decide) (by first | assumption | exact hwf _ _ | exact dt_b32 _ | omega | exact ⟨by omega, by omega⟩ | decide | exact ⟨by simp (disch := omega) only [dt_up_s, dt_up_k, dt_up_n]; omega, by simp (disch := omega) only [dt_up_s, dt_up_k, dt_up_n]; omega⟩) (by first | assumption | exact hwf _ _ | exact dt_b32 _ | omega | exact ⟨by omega, by omega⟩ | decide | exact ⟨by simp (disch := omega) only [dt_up_s, dt_up_k, dt_up_n]; omega, by simp (disch := omega) only [dt_up_s, dt_up_k, dt_up_n]; omega⟩) (fun c1 => ?_) (fun c1 => ?_)
      · skip
        have z : most - rs.length = 0 := by omega
        refine dt_iconst dX9_readReadings_67 ?_
        refine dt_iret dX9_readReadings_68 rfl (by decide) (by decide) ?_
        rw [z] at jr
        rw [show pReads T least most [] t = .ok (rs, t1) from jr.symm]; exact ⟨rfl, rfl, jf, jK, jX⟩
      · skip
        obtain ⟨w, hw⟩ : ∃ w, most - rs.length = w + 1 := ⟨most - rs.length - 1, by omega⟩
        rw [hw] at jr
        refine dt_aloadn dX9_readReadings_9 rfl rfl ?_
        refine dt_getI dX9_readReadings_10 pg_X9_28_9 rfl rfl ?_
        refine dt_iconst dX9_readReadings_13 ?_
        refine dt_cm_eq (tgt := 29) dX9_readReadings_14 (by decide) (by first | assumption | exact hwf _ _ | exact dt_b32 _ | omega | exact ⟨by omega, by omega⟩ | decide | exact ⟨by simp (disch := omega) only [dt_up_s, dt_up_k, dt_up_n]; omega, by simp (disch := omega) only [dt_up_s, dt_up_k, dt_up_n]; omega⟩) (by first | assumption | exact hwf _ _ | exact dt_b32 _ | omega | exact ⟨by omega, by omega⟩ | decide | exact ⟨by simp (disch := omega) only [dt_up_s, dt_up_k, dt_up_n]; omega, by simp (disch := omega) only [dt_up_s, dt_up_k, dt_up_n]; omega⟩) (fun c2 => ?_) (fun c2 => ?_)
        · skip
          have jn := jK.n (by omega)
          refine dt_aloadn dX9_readReadings_29 rfl rfl ?_
          refine dt_xV dX9_readReadings_30 pc_X9_90 rfl (s_X9_number jK (by omega)) rfl rfl ⟨by decide, by decide⟩ rfl rfl (Nat.le_of_ble_eq_true rfl) ⟨by decide, by decide⟩ (dt_k3 ?_)
          refine dt_istore dX9_readReadings_33 (by decide) rfl ?_
          dsimp only [List.set]
          refine dt_iload dX9_readReadings_35 rfl ?_
          refine dt_iconst dX9_readReadings_37 ?_
          refine dt_cm_lt (tgt := 49) dX9_readReadings_38 (by decide) (by first | assumption | exact hwf _ _ | exact dt_b32 _ | omega | exact ⟨by omega, by omega⟩ | decide | exact ⟨by simp (disch := omega) only [dt_up_s, dt_up_k, dt_up_n]; omega, by simp (disch := omega) only [dt_up_s, dt_up_k, dt_up_n]; omega⟩) (by first | assumption | exact hwf _ _ | exact dt_b32 _ | omega | exact ⟨by omega, by omega⟩ | decide | exact ⟨by simp (disch := omega) only [dt_up_s, dt_up_k, dt_up_n]; omega, by simp (disch := omega) only [dt_up_s, dt_up_k, dt_up_n]; omega⟩) (fun c3 => ?_) (fun c3 => ?_)
          · skip
            refine dt_iconst dX9_readReadings_49 ?_
            refine dt_iret dX9_readReadings_50 rfl (by decide) (by decide) ?_
            rw [show pReads T least most [] t = .error (2, t1.2.1) from jr.symm.trans (pReads_b (by omega) (by omega))]; exact ⟨rfl, rfl, jf, cR_e (by decide) (by decide) js2⟩
          · skip
            refine dt_iload dX9_readReadings_41 rfl ?_
            refine dt_sipush dX9_readReadings_43 (by decide) ?_
            refine dt_cm_lt (tgt := 51) dX9_readReadings_46 (by decide) (by first | assumption | exact hwf _ _ | exact dt_b32 _ | omega | exact ⟨by omega, by omega⟩ | decide | exact ⟨by simp (disch := omega) only [dt_up_s, dt_up_k, dt_up_n]; omega, by simp (disch := omega) only [dt_up_s, dt_up_k, dt_up_n]; omega⟩) (by first | assumption | exact hwf _ _ | exact dt_b32 _ | omega | exact ⟨by omega, by omega⟩ | decide | exact ⟨by simp (disch := omega) only [dt_up_s, dt_up_k, dt_up_n]; omega, by simp (disch := omega) only [dt_up_s, dt_up_k, dt_up_n]; omega⟩) (fun c4 => ?_) (fun c4 => ?_)
            · skip
              refine dt_aloadn dX9_readReadings_51 rfl rfl ?_
              refine dt_iload dX9_readReadings_52 rfl ?_
              refine dt_xV dX9_readReadings_54 pc_X9_93 dt_p13.1 (s_X6_addReading dt_p13 jX (by omega) (by omega)) rfl rfl ⟨by decide, by decide⟩ rfl rfl (Nat.le_of_ble_eq_true rfl) ⟨by decide, by decide⟩ ?_
              intro v2 sh2 σ2 hq2
              obtain ⟨rfl, hs2, hf2, hX2⟩ := hq2
              obtain rfl := hs2.symm
              have hK2 := jK.kept hf2
              refine dt_aloadn dX9_readReadings_57 rfl rfl ?_
              refine dt_xV dX9_readReadings_58 pc_X9_36 rfl (s_X9_next hK2.1 hK2.2.1.2.2 hK2.ok.2.1) rfl rfl ⟨by decide, by decide⟩ rfl rfl (Nat.le_of_ble_eq_true rfl) ⟨by decide, by decide⟩ ?_
              intro v3 sh3 σ3 hq3
              obtain ⟨rfl, hs3, hf3, ha3, hb3, hc3⟩ := hq3
              obtain rfl := hs3.symm
              have hK3 := cK.of hK2.1 hf3 hK2.ok.2.1 ha3 hb3 hc3
              refine dt_iinc dX9_readReadings_61 rfl (by decide) rfl ?_
              dsimp only [List.set]
              refine dt_goto (tgt := 3) dX9_readReadings_64 (by decide) ?_
              have el : (rs ++ [nT T t1]).length = rs.length + 1 := List.length_append
              exact dt_lb (ih (rs ++ [nT T t1]) (tk T t1.2.2) _ (by omega) (by omega) hK3 (hf3.P hX2) (jf.tr ((pF_c hf2).tr hf3.c)) (by rw [show most - (rs ++ [nT T t1]).length = w by omega]; exact (pReads_s (by omega) (by omega)).symm.trans jr)) ⟨rfl, rfl, rfl, rfl, (dt_ie (by rw [List.length_append]; rfl)), trivial⟩
            · skip
              refine dt_iconst dX9_readReadings_49 ?_
              refine dt_iret dX9_readReadings_50 rfl (by decide) (by decide) ?_
              rw [show pReads T least most [] t = .error (2, t1.2.1) from jr.symm.trans (pReads_b (by omega) (by omega))]; exact ⟨rfl, rfl, jf, cR_e (by decide) (by decide) js2⟩
        · skip
          refine dt_iload dX9_readReadings_17 rfl ?_
          refine dt_iloadn dX9_readReadings_19 rfl rfl ?_
          refine dt_cm_ge (tgt := 27) dX9_readReadings_20 (by decide) (by first | assumption | exact hwf _ _ | exact dt_b32 _ | omega | exact ⟨by omega, by omega⟩ | decide | exact ⟨by simp (disch := omega) only [dt_up_s, dt_up_k, dt_up_n]; omega, by simp (disch := omega) only [dt_up_s, dt_up_k, dt_up_n]; omega⟩) (by first | assumption | exact hwf _ _ | exact dt_b32 _ | omega | exact ⟨by omega, by omega⟩ | decide | exact ⟨by simp (disch := omega) only [dt_up_s, dt_up_k, dt_up_n]; omega, by simp (disch := omega) only [dt_up_s, dt_up_k, dt_up_n]; omega⟩) (fun c5 => ?_) (fun c5 => ?_)
          · skip
            refine dt_iconst dX9_readReadings_27 ?_
            refine dt_iret dX9_readReadings_28 rfl (by decide) (by decide) ?_
            first | (rw [show pReads T least most [] t = .error (1, t1.2.1) from jr.symm.trans (pReads_e (by omega) (by omega))]; exact ⟨rfl, rfl, jf, cR_e (by decide) (by decide) js2⟩) | (rw [show pReads T least most [] t = .ok (rs, t1) from jr.symm.trans (pReads_o (by omega) (by omega))]; exact ⟨rfl, rfl, jf, jK, jX⟩)
          · skip
            refine dt_iconst dX9_readReadings_23 ?_
            refine dt_goto (tgt := 28) dX9_readReadings_24 (by decide) ?_
            refine dt_iret dX9_readReadings_28 rfl (by decide) (by decide) ?_
            first | (rw [show pReads T least most [] t = .error (1, t1.2.1) from jr.symm.trans (pReads_e (by omega) (by omega))]; exact ⟨rfl, rfl, jf, cR_e (by decide) (by decide) js2⟩) | (rw [show pReads T least most [] t = .ok (rs, t1) from jr.symm.trans (pReads_o (by omega) (by omega))]; exact ⟨rfl, rfl, jf, jK, jX⟩)
  exact dt_lb (lp3 5 [] t σ (by show (most : Int) - ((0 : Nat) : Int) < _; omega) (Nat.zero_le _) hK hX (cF.refl σ) rfl) ⟨rfl, rfl, rfl, rfl, rfl, trivial⟩
theorem s_X9_readWord {ex : List dt_Shp} {σ : dt_Mem} {T : List Nat} {t : Tok} {Ts : List (List (Nat × List Nat))} {tg : List (Nat × List Nat)} {Y : List Nat × Nat} (hK : cK σ T t) (hX : cPort σ 13 (Ts ++ [tg], Y)) : dt_Sp mX9_readWord 6 0 0 [dt_R 5, dt_R 13] (dt_SH ++ ex) σ (fun v sh2 σ2 => v = some (dt_I ((pF (pWord T tg.length t) : Nat) : Int)) ∧ sh2 = dt_SH ++ ex ∧ cF σ σ2 ∧ cR σ2 (pWord T tg.length t) (fun q => cK σ2 T q.2 ∧ cPort σ2 13 (Ts ++ [tg ++ [q.1]], Y))) := by
  refine dt_Sp_of (by decide) (Nat.le_of_ble_eq_true rfl) ?_
  refine dt_wfV fun hwf => ?_
  obtain ⟨k1, k2, k3, k4, k5⟩ := hK.ok
  obtain ⟨hT, ⟨s1, s2, s3⟩, -⟩ := id hK
  have e1 := hT.2.2.1
  have e2 := hT.1
  have e5 := hX.t
  have e6 := hX.1.1
  obtain ⟨e7, e8, -⟩ := hX.2.2.2.2.1 Ts.length _ (by rw [List.getElem?_append_right (Nat.le_refl _), Nat.sub_self]; rfl)
  simp only [List.length_append, List.length_cons, List.length_nil] at e5 e6 e7 e8
  have e9 : (((Ts.length : Int) + 1) - 1).toNat = Ts.length := by omega
  have e10 : ((Ts.length + 1 : Nat) : Int) - 1 = (Ts.length : Int) := by omega
  have e12 : σ (13 + 1) ((Ts.length : Int)).toNat = tg.length := by rw [Int.toNat_natCast]; exact e8
  show dt_V _ _ _ 0 0 0 [some (dt_R 5), some (dt_R 13), none, none] [] _ _
  refine dt_aloadn dX9_readWord_0 rfl rfl ?_
  refine dt_aloadn dX9_readWord_1 rfl rfl ?_
  refine dt_xV dX9_readWord_2 pc_X9_54 dt_p13.1 (s_X6_tongues dt_p13) rfl rfl ⟨by decide, by decide⟩ rfl rfl (Nat.le_of_ble_eq_true rfl) ⟨by decide, by decide⟩ (dt_k3 ?_)
  refine dt_iconst dX9_readWord_5 ?_
  refine dt_isub dX9_readWord_6 ?_
  rw [e5, e10]
  refine dt_xV dX9_readWord_7 pc_X9_69 dt_p13.1 (s_X6_wordsOf dt_p13 ⟨by omega, by omega, by omega⟩) rfl rfl ⟨by decide, by decide⟩ rfl rfl (Nat.le_of_ble_eq_true rfl) ⟨by decide, by decide⟩ (dt_k3 ?_)
  rw [e12]
  refine dt_bipush dX9_readWord_10 (by decide) ?_
  refine dt_cm_lt (tgt := 17) dX9_readWord_12 (by decide) (by first | assumption | exact hwf _ _ | exact dt_b32 _ | omega | exact ⟨by omega, by omega⟩ | decide | exact ⟨by simp (disch := omega) only [dt_up_s, dt_up_k, dt_up_n]; omega, by simp (disch := omega) only [dt_up_s, dt_up_k, dt_up_n]; omega⟩) (by first | assumption | exact hwf _ _ | exact dt_b32 _ | omega | exact ⟨by omega, by omega⟩ | decide | exact ⟨by simp (disch := omega) only [dt_up_s, dt_up_k, dt_up_n]; omega, by simp (disch := omega) only [dt_up_s, dt_up_k, dt_up_n]; omega⟩) (fun c1 => ?_) (fun c1 => ?_)
  · skip
    refine dt_aloadn dX9_readWord_17 rfl rfl ?_
    refine dt_xV dX9_readWord_18 pc_X9_36 rfl (s_X9_next hK.1 hK.2.1.2.2 hK.ok.2.1) rfl rfl ⟨by decide, by decide⟩ rfl rfl (Nat.le_of_ble_eq_true rfl) ⟨by decide, by decide⟩ ?_
    intro v3 sh3 σ3 hq3
    obtain ⟨rfl, hs3, hf3, ha3, hb3, hc3⟩ := hq3
    obtain rfl := hs3.symm
    have hK3 := cK.of hK.1 hf3 hK.ok.2.1 ha3 hb3 hc3
    refine dt_aloadn dX9_readWord_21 rfl rfl ?_
    refine dt_xV dX9_readWord_22 pc_X9_73 rfl (s_X9_kindTold hK3) rfl rfl ⟨by decide, by decide⟩ rfl rfl (Nat.le_of_ble_eq_true rfl) ⟨by decide, by decide⟩ (dt_k3 ?_)
    refine dt_istoren dX9_readWord_25 rfl (by decide) rfl ?_
    dsimp only [List.set]
    refine dt_iloadn dX9_readWord_26 rfl rfl ?_
    refine dt_if_ne (tgt := 32) dX9_readWord_27 (by decide) ⟨by have := kTold_le T (tk T t.2.2); omega, by have := kTold_le T (tk T t.2.2); omega⟩ (fun c2 => ?_) (fun c2 => ?_)
    · skip
      have hk : ¬ kTold T (tk T t.2.2) = 0 := by omega
      have hk5 := kTold_le T (tk T t.2.2)
      have hkm := kLM (kTold T (tk T t.2.2))
      refine dt_aloadn dX9_readWord_32 rfl rfl ?_
      refine dt_iloadn dX9_readWord_33 rfl rfl ?_
      refine dt_xV dX9_readWord_34 pc_X9_76 dt_p13.1 (s_X6_addWord dt_p13 (hf3.P hX) (by omega) (by omega)) rfl rfl ⟨by decide, by decide⟩ rfl rfl (Nat.le_of_ble_eq_true rfl) ⟨by decide, by decide⟩ ?_
      intro v5 sh5 σ5 hq5
      obtain ⟨rfl, hs5, hf5, hX5⟩ := hq5
      obtain rfl := hs5.symm
      have hK5 := hK3.kept hf5
      refine dt_aloadn dX9_readWord_37 rfl rfl ?_
      refine dt_xV dX9_readWord_38 pc_X9_36 rfl (s_X9_next hK5.1 hK5.2.1.2.2 hK5.ok.2.1) rfl rfl ⟨by decide, by decide⟩ rfl rfl (Nat.le_of_ble_eq_true rfl) ⟨by decide, by decide⟩ ?_
      intro v6 sh6 σ6 hq6
      obtain ⟨rfl, hs6, hf6, ha6, hb6, hc6⟩ := hq6
      obtain rfl := hs6.symm
      have hK6 := cK.of hK5.1 hf6 hK5.ok.2.1 ha6 hb6 hc6
      refine dt_aloadn dX9_readWord_41 rfl rfl ?_
      refine dt_aloadn dX9_readWord_42 rfl rfl ?_
      refine dt_iloadn dX9_readWord_43 rfl rfl ?_
      refine dt_xS dX9_readWord_44 pc_X9_80 (s_X9_leastReadings hk5) rfl rfl ⟨by decide, by decide⟩ (Nat.le_of_ble_eq_true rfl) ⟨by decide, by decide⟩ (dt_k3 ?_)
      refine dt_iloadn dX9_readWord_47 rfl rfl ?_
      refine dt_xS dX9_readWord_48 pc_X9_83 (s_X9_mostReadings hk5) rfl rfl ⟨by decide, by decide⟩ (Nat.le_of_ble_eq_true rfl) ⟨by decide, by decide⟩ (dt_k3 ?_)
      refine dt_xV dX9_readWord_51 pc_X9_86 rfl (s_X9_readReadings hK6 (hf6.P hX5) hkm.2) rfl rfl ⟨by decide, by decide⟩ rfl rfl (Nat.le_of_ble_eq_true rfl) ⟨by decide, by decide⟩ ?_
      intro v9 sh9 σ9 hq9
      obtain ⟨rfl, hs9, hf9, hR9⟩ := hq9
      obtain rfl := hs9.symm
      refine dt_istoren dX9_readWord_54 rfl (by decide) rfl ?_
      dsimp only [List.set]
      refine dt_iloadn dX9_readWord_55 rfl rfl ?_
      refine dt_if_ne (tgt := 66) dX9_readWord_56 (by decide) hR9.i (fun c3 => ?_) (fun c3 => ?_)
      · skip
        obtain ⟨h0, -⟩ | ⟨e, he, hpe, h1e, h2e, h3e⟩ := hR9.c
        · omega
        refine dt_iloadn dX9_readWord_66 rfl rfl ?_
        refine dt_iret dX9_readWord_67 rfl (by decide) (by decide) ?_
        rw [pWord_r (by omega) hk he, he]
        exact ⟨rfl, rfl, hf3.c.tr ((pF_c hf5).tr (hf6.c.tr hf9)), h1e, h2e, h3e⟩
      · skip
        obtain ⟨h0, ⟨rs, u⟩, he, hKu, hXu⟩ | ⟨e, he, hpe, h1e, h2e, h3e⟩ := hR9.c
        rotate_left
        · omega
        refine dt_aloadn dX9_readWord_59 rfl rfl ?_
        refine dt_xV dX9_readWord_60 pc_X9_61 rfl (s_X9_readSemicolon hKu) rfl rfl ⟨by decide, by decide⟩ rfl rfl (Nat.le_of_ble_eq_true rfl) ⟨by decide, by decide⟩ ?_
        intro v10 sh10 σ10 hq10
        obtain ⟨rfl, hs10, hf10, hR10⟩ := hq10
        obtain rfl := hs10.symm
        refine dt_goto (tgt := 67) dX9_readWord_63 (by decide) ?_
        refine dt_iret dX9_readWord_67 rfl (by decide) (by decide) ?_
        obtain ⟨h0b, u2, he2, hK2⟩ | ⟨e, he2, hpe, h1e, h2e, h3e⟩ := hR10.c
        · rw [pWord_o (by omega) hk he he2, he2]
          exact ⟨rfl, rfl, hf3.c.tr ((pF_c hf5).tr (hf6.c.tr (hf9.tr hf10.c))), hK2, hf10.P hXu⟩
        · rw [pWord_e (by omega) hk he he2, he2]
          exact ⟨rfl, rfl, hf3.c.tr ((pF_c hf5).tr (hf6.c.tr (hf9.tr hf10.c))), h1e, h2e, h3e⟩
    · skip
      refine dt_iconst dX9_readWord_30 ?_
      refine dt_iret dX9_readWord_31 rfl (by decide) (by decide) ?_
      rw [pWord_k (by omega) (by omega)]
      exact ⟨rfl, rfl, hf3.c, cR_e (by decide) (by decide) hb3⟩
  · skip
    refine dt_iconst dX9_readWord_15 ?_
    refine dt_iret dX9_readWord_16 rfl (by decide) (by decide) ?_
    rw [pWord_f (by omega)]
    exact ⟨rfl, rfl, cF.refl σ, cR_e (by decide) (by decide) s2⟩
theorem s_X9_readTongue {ex : List dt_Shp} {σ : dt_Mem} {T : List Nat} {t : Tok} {Ts : List (List (Nat × List Nat))} {Y : List Nat × Nat} (hK : cK σ T t) (hX : cPort σ 13 (Ts, Y)) : dt_Sp mX9_readTongue 7 0 0 [dt_R 5, dt_R 13] (dt_SH ++ ex) σ (fun v sh2 σ2 => v = some (dt_I ((pF (pTongue T Ts.length t) : Nat) : Int)) ∧ sh2 = dt_SH ++ ex ∧ cF σ σ2 ∧ cR σ2 (pTongue T Ts.length t) (fun q => cK σ2 T q.2 ∧ cPort σ2 13 (Ts ++ [q.1], Y))) := by
  refine dt_Sp_of (by decide) (Nat.le_of_ble_eq_true rfl) ?_
  refine dt_wfV fun hwf => ?_
  obtain ⟨k1, k2, k3, k4, k5⟩ := hK.ok
  obtain ⟨hT, ⟨s1, s2, s3⟩, -⟩ := id hK
  have e1 := hT.2.2.1
  have e2 := hT.1
  have e5 : σ 13 5 = (Ts.length : Int) := hX.t
  show dt_V _ _ _ 0 0 0 [some (dt_R 5), some (dt_R 13), none, none] [] _ _
  refine dt_aloadn dX9_readTongue_0 rfl rfl ?_
  refine dt_xV dX9_readTongue_1 pc_X9_54 dt_p13.1 (s_X6_tongues dt_p13) rfl rfl ⟨by decide, by decide⟩ rfl rfl (Nat.le_of_ble_eq_true rfl) ⟨by decide, by decide⟩ (dt_k3 ?_)
  refine dt_bipush dX9_readTongue_4 (by decide) ?_
  refine dt_cm_lt (tgt := 11) dX9_readTongue_6 (by decide) (by first | assumption | exact hwf _ _ | exact dt_b32 _ | omega | exact ⟨by omega, by omega⟩ | decide | exact ⟨by simp (disch := omega) only [dt_up_s, dt_up_k, dt_up_n]; omega, by simp (disch := omega) only [dt_up_s, dt_up_k, dt_up_n]; omega⟩) (by first | assumption | exact hwf _ _ | exact dt_b32 _ | omega | exact ⟨by omega, by omega⟩ | decide | exact ⟨by simp (disch := omega) only [dt_up_s, dt_up_k, dt_up_n]; omega, by simp (disch := omega) only [dt_up_s, dt_up_k, dt_up_n]; omega⟩) (fun c1 => ?_) (fun c1 => ?_)
  · skip
    refine dt_aloadn dX9_readTongue_11 rfl rfl ?_
    refine dt_xV dX9_readTongue_12 pc_X9_58 dt_p13.1 (s_X6_addTongue dt_p13 hX (show Ts.length < 7 by omega)) rfl rfl ⟨by decide, by decide⟩ rfl rfl (Nat.le_of_ble_eq_true rfl) ⟨by decide, by decide⟩ ?_
    intro v2 sh2 σ2 hq2
    obtain ⟨rfl, hs2, hf2, hX2⟩ := hq2
    obtain rfl := hs2.symm
    have hK2 := hK.kept hf2
    refine dt_aloadn dX9_readTongue_15 rfl rfl ?_
    refine dt_xV dX9_readTongue_16 pc_X9_36 rfl (s_X9_next hK2.1 hK2.2.1.2.2 hK2.ok.2.1) rfl rfl ⟨by decide, by decide⟩ rfl rfl (Nat.le_of_ble_eq_true rfl) ⟨by decide, by decide⟩ ?_
    intro v3 sh3 σ3 hq3
    obtain ⟨rfl, hs3, hf3, ha3, hb3, hc3⟩ := hq3
    obtain rfl := hs3.symm
    have hK3 := cK.of hK2.1 hf3 hK2.ok.2.1 ha3 hb3 hc3
    refine dt_aloadn dX9_readTongue_19 rfl rfl ?_
    refine dt_xV dX9_readTongue_20 pc_X9_61 rfl (s_X9_readSemicolon hK3) rfl rfl ⟨by decide, by decide⟩ rfl rfl (Nat.le_of_ble_eq_true rfl) ⟨by decide, by decide⟩ ?_
    intro v4 sh4 σ4 hq4
    obtain ⟨rfl, hs4, hf4, hR4⟩ := hq4
    obtain rfl := hs4.symm
    refine dt_istoren dX9_readTongue_23 rfl (by decide) rfl ?_
    dsimp only [List.set]
    refine dt_iconst dX9_readTongue_24 ?_
    refine dt_istoren dX9_readTongue_25 rfl (by decide) rfl ?_
    dsimp only [List.set]
    have lp26 : ∀ (fu : Nat) (i f : Nat) (σ1 : dt_Mem), 9 - (i : Int) < (fu : Int) → (i ≤ 9) → (cF σ σ1) → (jWs σ1 T t Ts Y i f) → (f ≤ 3) →  dt_V mX9_readTongue (dt_rm 7 0 0) (dt_MC (fun v sh2 σ2 => v = some (dt_I ((pF (pTongue T Ts.length t) : Nat) : Int)) ∧ sh2 = dt_SH ++ ex ∧ cF σ σ2 ∧ cR σ2 (pTongue T Ts.length t) (fun q => cK σ2 T q.2 ∧ cPort σ2 13 (Ts ++ [q.1], Y))) 0 0) 0 0 26 [some (dt_R 5), some (dt_R 13), some (dt_I (f : Int)), some (dt_I (i : Int))] [] (dt_SH ++ ex) σ1 := by
      intro fu
      induction fu with
      | zero =>
        intro i f σ1 hm ji jf jw jf3
        exfalso
        omega
      | succ fu ih =>
        intro i f σ1 hm ji jf jw jf3
        refine dt_wfV fun hwf => ?_
        refine dt_iloadn dX9_readTongue_26 rfl rfl ?_
        refine dt_bipush dX9_readTongue_27 (by decide) ?_
        refine dt_cm_gt (tgt := 57) dX9_readTongue_29 (by decide) (by first | assumption | exact hwf _ _ | exact dt_b32 _ | omega | exact ⟨by omega, by omega⟩ | decide | exact ⟨by simp (disch := omega) only [dt_up_s, dt_up_k, dt_up_n]; omega, by simp (disch := omega) only [dt_up_s, dt_up_k, dt_up_n]; omega⟩) (by first | assumption | exact hwf _ _ | exact dt_b32 _ | omega | exact ⟨by omega, by omega⟩ | decide | exact ⟨by simp (disch := omega) only [dt_up_s, dt_up_k, dt_up_n]; omega, by simp (disch := omega) only [dt_up_s, dt_up_k, dt_up_n]; omega⟩) (fun c2 => ?_) (fun c2 => ?_)
        · skip
          refine dt_iloadn dX9_readTongue_57 rfl rfl ?_
          refine dt_iret dX9_readTongue_58 rfl (by decide) (by decide) ?_
          obtain ⟨h0, tg, t1, hl, jK, jX, hw⟩ | ⟨e, he, hfe, h1e, h2e, h3e⟩ := jw
          · rw [show 9 - i = 0 by omega] at hw
            rw [show pTongue T Ts.length t = .ok (tg, t1) from hw, h0]
            exact ⟨rfl, rfl, jf, jK, jX⟩
          · rw [he, hfe]
            exact ⟨rfl, rfl, jf, h1e, h2e, h3e⟩
        · skip
          refine dt_iloadn dX9_readTongue_32 rfl rfl ?_
          refine dt_if_ne (tgt := 57) dX9_readTongue_33 (by decide) (by first | assumption | exact hwf _ _ | exact dt_b32 _ | omega | exact ⟨by omega, by omega⟩ | decide | exact ⟨by simp (disch := omega) only [dt_up_s, dt_up_k, dt_up_n]; omega, by simp (disch := omega) only [dt_up_s, dt_up_k, dt_up_n]; omega⟩) (fun c3 => ?_) (fun c3 => ?_)
          · skip
            refine dt_iloadn dX9_readTongue_57 rfl rfl ?_
            refine dt_iret dX9_readTongue_58 rfl (by decide) (by decide) ?_
            obtain ⟨h0, -⟩ | ⟨e, he, hfe, h1e, h2e, h3e⟩ := jw
            · omega
            · rw [he, hfe]
              exact ⟨rfl, rfl, jf, h1e, h2e, h3e⟩
          · skip
            obtain ⟨-, tg, t1, hl, jK, jX, hw⟩ | ⟨e, he, hfe, h1e, h2e, h3e⟩ := jw
            rotate_left
            · omega
            obtain ⟨z, hz⟩ : ∃ z, 9 - i = z + 1 := ⟨9 - i - 1, by omega⟩
            refine dt_aloadn dX9_readTongue_36 rfl rfl ?_
            refine dt_ldcS 1 dX9_readTongue_37 (by decide) rfl rfl ?_
            refine dt_xV dX9_readTongue_39 pc_X9_41 rfl (s_X9_isName jK (show 1 < 8 by decide)) rfl rfl ⟨by decide, by decide⟩ rfl rfl (Nat.le_of_ble_eq_true rfl) ⟨by decide, by decide⟩ (dt_k3 ?_)
            refine dt_if_eq (tgt := 57) dX9_readTongue_42 (by decide) (by first | assumption | exact hwf _ _ | exact dt_b32 _ | omega | exact ⟨by omega, by omega⟩ | decide | exact ⟨by simp (disch := omega) only [dt_up_s, dt_up_k, dt_up_n]; omega, by simp (disch := omega) only [dt_up_s, dt_up_k, dt_up_n]; omega⟩) (fun c4 => ?_) (fun c4 => ?_)
            · skip
              try simp only [dt_b0, dt_b1, Decidable.not_not, Classical.not_not] at c4
              refine dt_iloadn dX9_readTongue_57 rfl rfl ?_
              refine dt_iret dX9_readTongue_58 rfl (by decide) (by decide) ?_
              have h0 : f = 0 := by omega
              rw [show pTongue T Ts.length t = .ok (tg, t1) by rw [hw, hz, pWords_n (by assumption)], h0]
              exact ⟨rfl, rfl, jf, jK, jX⟩
            · skip
              try simp only [dt_b0, dt_b1, Decidable.not_not, Classical.not_not] at c4
              have c6 : isN T t1 1 = true := by assumption
              refine dt_aloadn dX9_readTongue_45 rfl rfl ?_
              refine dt_aloadn dX9_readTongue_46 rfl rfl ?_
              refine dt_xV dX9_readTongue_47 pc_X9_66 rfl (s_X9_readWord jK jX) rfl rfl ⟨by decide, by decide⟩ rfl rfl (Nat.le_of_ble_eq_true rfl) ⟨by decide, by decide⟩ ?_
              intro v6 sh6 σ6 hq6
              obtain ⟨rfl, hs6, hf6, hR6⟩ := hq6
              obtain rfl := hs6.symm
              refine dt_istoren dX9_readTongue_50 rfl (by decide) rfl ?_
              dsimp only [List.set]
              refine dt_iinc dX9_readTongue_51 rfl (by decide) rfl ?_
              dsimp only [List.set]
              refine dt_goto (tgt := 26) dX9_readTongue_54 (by decide) ?_
              have jw2 : jWs σ6 T t Ts Y (i + 1) (pF (pWord T tg.length t1)) ∧ pF (pWord T tg.length t1) ≤ 3 := by
                obtain ⟨h0, ⟨q, u⟩, he, hKu, hXu⟩ | ⟨e, he, hpe, h1e, h2e, h3e⟩ := hR6.c
                · exact ⟨Or.inl ⟨h0, tg ++ [q], u, by rw [List.length_append, hl]; rfl, hKu, hXu, by rw [hw, hz, pWords_s c6 he, show 9 - (i + 1) = z by omega]⟩, by omega⟩
                · exact ⟨Or.inr ⟨e, by rw [hw, hz, pWords_e c6 he], hpe, h1e, h2e, h3e⟩, by omega⟩
              exact dt_lb (ih (i + 1) (pF (pWord T tg.length t1)) σ6 (by omega) (by omega) (jf.tr hf6) jw2.1 jw2.2) ⟨rfl, rfl, rfl, rfl, trivial⟩
    have jw0 : jWs σ4 T t Ts Y 0 (pF (pSemi T (tk T t.2.2))) ∧ pF (pSemi T (tk T t.2.2)) ≤ 3 := by
      obtain ⟨h0, u, he, hKu⟩ | ⟨e, he, hpe, h1e, h2e, h3e⟩ := hR4.c
      · exact ⟨Or.inl ⟨h0, [], u, rfl, hKu, (hf4.P (hf3.P hX2)), pTongue_o (by omega) he⟩, by omega⟩
      · exact ⟨Or.inr ⟨e, pTongue_e (by omega) he, hpe, h1e, h2e, h3e⟩, by omega⟩
    exact dt_lb (lp26 10 0 (pF (pSemi T (tk T t.2.2))) σ4 (by omega) (by omega) ((pF_c hf2).tr (hf3.c.tr hf4.c)) jw0.1 jw0.2) ⟨rfl, rfl, rfl, rfl, trivial⟩
  · skip
    refine dt_iconst dX9_readTongue_9 ?_
    refine dt_iret dX9_readTongue_10 rfl (by decide) (by decide) ?_
    rw [pTongue_f (by omega)]
    exact ⟨rfl, rfl, cF.refl σ, cR_e (by decide) (by decide) s2⟩
theorem s_X9_readPerson {ex : List dt_Shp} {σ : dt_Mem} {T : List Nat} {t : Tok} {Ts : List (List (Nat × List Nat))} {Ps : List Nat} {y : Nat} (hK : cK σ T t) (hX : cPort σ 13 (Ts, Ps, y)) : dt_Sp mX9_readPerson 3 0 0 [dt_R 5, dt_R 13] (dt_SH ++ ex) σ (fun v sh2 σ2 => v = some (dt_I ((pF (pPerson T Ts.length Ps.length t) : Nat) : Int)) ∧ sh2 = dt_SH ++ ex ∧ cF σ σ2 ∧ cR σ2 (pPerson T Ts.length Ps.length t) (fun q => cK σ2 T q.2 ∧ cPort σ2 13 (Ts, Ps ++ [q.1], y))) := by
  refine dt_Sp_of (by decide) (Nat.le_of_ble_eq_true rfl) ?_
  refine dt_wfV fun hwf => ?_
  obtain ⟨k1, k2, k3, k4, k5⟩ := hK.ok
  obtain ⟨hT, ⟨s1, s2, s3⟩, -⟩ := id hK
  have e1 := hT.2.2.1
  have e2 := hT.1
  have e5 : σ 13 6 = (Ps.length : Int) := hX.p
  have e6 : Ts.length ≤ 7 := hX.1.1
  show dt_V _ _ _ 0 0 0 [some (dt_R 5), some (dt_R 13), none] [] _ _
  refine dt_aloadn dX9_readPerson_0 rfl rfl ?_
  refine dt_xV dX9_readPerson_1 pc_X9_96 dt_p13.1 (s_X6_people dt_p13) rfl rfl ⟨by decide, by decide⟩ rfl rfl (Nat.le_of_ble_eq_true rfl) ⟨by decide, by decide⟩ (dt_k3 ?_)
  refine dt_bipush dX9_readPerson_4 (by decide) ?_
  refine dt_cm_lt (tgt := 11) dX9_readPerson_6 (by decide) (by first | assumption | exact hwf _ _ | exact dt_b32 _ | omega | exact ⟨by omega, by omega⟩ | decide | exact ⟨by simp (disch := omega) only [dt_up_s, dt_up_k, dt_up_n]; omega, by simp (disch := omega) only [dt_up_s, dt_up_k, dt_up_n]; omega⟩) (by first | assumption | exact hwf _ _ | exact dt_b32 _ | omega | exact ⟨by omega, by omega⟩ | decide | exact ⟨by simp (disch := omega) only [dt_up_s, dt_up_k, dt_up_n]; omega, by simp (disch := omega) only [dt_up_s, dt_up_k, dt_up_n]; omega⟩) (fun c1 => ?_) (fun c1 => ?_)
  · skip
    refine dt_aloadn dX9_readPerson_11 rfl rfl ?_
    refine dt_xV dX9_readPerson_12 pc_X9_36 rfl (s_X9_next hK.1 hK.2.1.2.2 hK.ok.2.1) rfl rfl ⟨by decide, by decide⟩ rfl rfl (Nat.le_of_ble_eq_true rfl) ⟨by decide, by decide⟩ ?_
    intro v2 sh2 σ2 hq2
    obtain ⟨rfl, hs2, hf2, ha2, hb2, hc2⟩ := hq2
    obtain rfl := hs2.symm
    have hK2 := cK.of hK.1 hf2 hK.ok.2.1 ha2 hb2 hc2
    refine dt_aloadn dX9_readPerson_15 rfl rfl ?_
    refine dt_getI dX9_readPerson_16 pg_X9_28_9 rfl rfl ?_
    refine dt_iconst dX9_readPerson_19 ?_
    refine dt_wfV fun hwf => ?_
    refine dt_cm_eq (tgt := 25) dX9_readPerson_20 (by decide) (by first | assumption | exact hwf _ _ | exact dt_b32 _ | omega | exact ⟨by omega, by omega⟩ | decide | exact ⟨by simp (disch := omega) only [dt_up_s, dt_up_k, dt_up_n]; omega, by simp (disch := omega) only [dt_up_s, dt_up_k, dt_up_n]; omega⟩) (by first | assumption | exact hwf _ _ | exact dt_b32 _ | omega | exact ⟨by omega, by omega⟩ | decide | exact ⟨by simp (disch := omega) only [dt_up_s, dt_up_k, dt_up_n]; omega, by simp (disch := omega) only [dt_up_s, dt_up_k, dt_up_n]; omega⟩) (fun c2 => ?_) (fun c2 => ?_)
    · skip
      have hn := hK2.n (by omega)
      have h2 : (tk T t.2.2).1 = 2 := by omega
      refine dt_aloadn dX9_readPerson_25 rfl rfl ?_
      refine dt_xV dX9_readPerson_26 pc_X9_90 rfl (s_X9_number hK2 h2) rfl rfl ⟨by decide, by decide⟩ rfl rfl (Nat.le_of_ble_eq_true rfl) ⟨by decide, by decide⟩ (dt_k3 ?_)
      refine dt_istoren dX9_readPerson_29 rfl (by decide) rfl ?_
      dsimp only [List.set]
      refine dt_iloadn dX9_readPerson_30 rfl rfl ?_
      refine dt_iconst dX9_readPerson_31 ?_
      refine dt_aloadn dX9_readPerson_32 rfl rfl ?_
      refine dt_xV dX9_readPerson_33 pc_X9_54 dt_p13.1 (s_X6_tongues dt_p13) rfl rfl ⟨by decide, by decide⟩ rfl rfl (Nat.le_of_ble_eq_true rfl) ⟨by decide, by decide⟩ (dt_k3 ?_)
      rw [show σ2 13 5 = ((Ts.length : Nat) : Int) from (hf2.P hX).t]
      refine dt_ishl dX9_readPerson_36 ?_
      rw [dj_shl1 (by omega)]
      have hp7 : 2 ^ Ts.length ≤ 2 ^ 7 := Nat.pow_le_pow_right (by decide) e6
      obtain ⟨P2, hP2⟩ : ∃ z, z = 2 ^ Ts.length := ⟨_, rfl⟩
      rw [← hP2] at hp7 ⊢
      refine dt_cm_lt (tgt := 42) dX9_readPerson_37 (by decide) (by first | assumption | exact hwf _ _ | exact dt_b32 _ | omega | exact ⟨by omega, by omega⟩ | decide | exact ⟨by simp (disch := omega) only [dt_up_s, dt_up_k, dt_up_n]; omega, by simp (disch := omega) only [dt_up_s, dt_up_k, dt_up_n]; omega⟩) (by first | assumption | exact hwf _ _ | exact dt_b32 _ | omega | exact ⟨by omega, by omega⟩ | decide | exact ⟨by simp (disch := omega) only [dt_up_s, dt_up_k, dt_up_n]; omega, by simp (disch := omega) only [dt_up_s, dt_up_k, dt_up_n]; omega⟩) (fun c3 => ?_) (fun c3 => ?_)
      · skip
        refine dt_aloadn dX9_readPerson_42 rfl rfl ?_
        refine dt_iloadn dX9_readPerson_43 rfl rfl ?_
        refine dt_xV dX9_readPerson_44 pc_X9_99 dt_p13.1 (s_X6_addPerson dt_p13 (hf2.P hX) (show Ps.length < 8 by omega) (by omega)) rfl rfl ⟨by decide, by decide⟩ rfl rfl (Nat.le_of_ble_eq_true rfl) ⟨by decide, by decide⟩ ?_
        intro v5 sh5 σ5 hq5
        obtain ⟨rfl, hs5, hf5, hX5⟩ := hq5
        obtain rfl := hs5.symm
        have hK5 := hK2.kept hf5
        refine dt_aloadn dX9_readPerson_47 rfl rfl ?_
        refine dt_xV dX9_readPerson_48 pc_X9_36 rfl (s_X9_next hK5.1 hK5.2.1.2.2 hK5.ok.2.1) rfl rfl ⟨by decide, by decide⟩ rfl rfl (Nat.le_of_ble_eq_true rfl) ⟨by decide, by decide⟩ ?_
        intro v6 sh6 σ6 hq6
        obtain ⟨rfl, hs6, hf6, ha6, hb6, hc6⟩ := hq6
        obtain rfl := hs6.symm
        have hK6 := cK.of hK5.1 hf6 hK5.ok.2.1 ha6 hb6 hc6
        refine dt_aloadn dX9_readPerson_51 rfl rfl ?_
        refine dt_xV dX9_readPerson_52 pc_X9_61 rfl (s_X9_readSemicolon hK6) rfl rfl ⟨by decide, by decide⟩ rfl rfl (Nat.le_of_ble_eq_true rfl) ⟨by decide, by decide⟩ ?_
        intro v7 sh7 σ7 hq7
        obtain ⟨rfl, hs7, hf7, hR7⟩ := hq7
        obtain rfl := hs7.symm
        refine dt_iret dX9_readPerson_55 rfl (by decide) (by decide) ?_
        obtain ⟨h0, u, he, hKu⟩ | ⟨e, he, hpe, h1e, h2e, h3e⟩ := hR7.c
        · rw [pPerson_o (by omega) h2 (by omega) he, he]
          exact ⟨rfl, rfl, hf2.c.tr ((pF_c hf5).tr (hf6.c.tr hf7.c)), hKu, hf7.P (hf6.P hX5)⟩
        · rw [pPerson_e (by omega) h2 (by omega) he, he]
          exact ⟨rfl, rfl, hf2.c.tr ((pF_c hf5).tr (hf6.c.tr hf7.c)), h1e, h2e, h3e⟩
      · skip
        refine dt_iconst dX9_readPerson_40 ?_
        refine dt_iret dX9_readPerson_41 rfl (by decide) (by decide) ?_
        rw [pPerson_b (by omega) h2 (by omega)]
        exact ⟨rfl, rfl, hf2.c, cR_e (by decide) (by decide) hb2⟩
    · skip
      refine dt_iconst dX9_readPerson_23 ?_
      refine dt_iret dX9_readPerson_24 rfl (by decide) (by decide) ?_
      rw [pPerson_n (by omega) (by omega)]
      exact ⟨rfl, rfl, hf2.c, cR_e (by decide) (by decide) hb2⟩
  · skip
    refine dt_iconst dX9_readPerson_9 ?_
    refine dt_iret dX9_readPerson_10 rfl (by decide) (by decide) ?_
    rw [pPerson_f (by omega)]
    exact ⟨rfl, rfl, cF.refl σ, cR_e (by decide) (by decide) s2⟩
/-! what a port's text gives -/
theorem pReads_ok {T : List Nat} {a m : Nat} (ha : a ≤ m) : ∀ (k : Nat) (rs : List Nat) (t : Tok) (q : List Nat × Tok), k + rs.length = m → (∀ r ∈ rs, 1 ≤ r ∧ r < 256) → pReads T a k rs t = .ok q → a ≤ q.1.length ∧ q.1.length ≤ m ∧ ∀ r ∈ q.1, 1 ≤ r ∧ r < 256
  | 0, rs, t, q, hk, hr, h => by
    obtain rfl := Except.ok.inj h
    exact ⟨by show a ≤ rs.length; omega, by show rs.length ≤ m; omega, hr⟩
  | k + 1, rs, t, q, hk, hr, h => by
    by_cases h1 : t.1 = 2
    · by_cases h2 : nT T t < 1 ∨ 256 ≤ nT T t
      · rw [pReads_b h1 h2] at h
        exact absurd h (fun z => by cases z)
      · rw [pReads_s h1 h2] at h
        refine pReads_ok ha k _ _ q (by rw [List.length_append]; show k + (rs.length + 1) = m; omega) (fun r hm => ?_) h
        rcases List.mem_append.mp hm with g | g
        · exact hr r g
        · obtain rfl := List.mem_singleton.mp g
          omega
    · by_cases h2 : rs.length < a
      · rw [pReads_e h1 h2] at h
        exact absurd h (fun z => by cases z)
      · rw [pReads_o h1 h2] at h
        obtain rfl := Except.ok.inj h
        exact ⟨by show a ≤ rs.length; omega, by show rs.length ≤ m; omega, hr⟩
theorem pWord_ok {T : List Nat} {n : Nat} {t : Tok} {q : (Nat × List Nat) × Tok} (h : pWord T n t = .ok q) : n < 8 ∧ wdOk q.1 := by
  by_cases h1 : 8 ≤ n
  · rw [pWord_f h1] at h
    cases h
  by_cases h2 : kTold T (tk T t.2.2) = 0
  · rw [pWord_k h1 h2] at h
    cases h
  have km := kLM (kTold T (tk T t.2.2))
  cases hr : pReads T (kLeast (kTold T (tk T t.2.2))) (kMost (kTold T (tk T t.2.2))) [] (tk T (tk T t.2.2).2.2) with
  | error e => rw [pWord_r h1 h2 hr] at h; cases h
  | ok w =>
    obtain ⟨rs, u⟩ := w
    cases hs : pSemi T u with
    | error e => rw [pWord_e h1 h2 hr hs] at h; cases h
    | ok u2 =>
      rw [pWord_o h1 h2 hr hs] at h
      obtain rfl := Except.ok.inj h
      obtain ⟨r1, r2, r3⟩ := pReads_ok km.2.1 _ [] _ _ (Nat.add_zero _) (fun r hm => by simp at hm) hr
      have k5 := kTold_le T (tk T t.2.2)
      refine ⟨by omega, by show 1 ≤ kTold T (tk T t.2.2); omega, k5, Nat.le_trans km.1 r1, Nat.le_trans r2 km.2.2, fun g => ?_, r3⟩
      have g : kTold T (tk T t.2.2) < 4 := g
      have e2 : kMost (kTold T (tk T t.2.2)) = 1 := if_neg (by omega)
      show rs.length = 1
      have r1 : _ ≤ rs.length := r1
      have r2 : rs.length ≤ _ := r2
      omega
theorem pWords_ok {T : List Nat} : ∀ (f : Nat) (tg : List (Nat × List Nat)) (t : Tok) (q : List (Nat × List Nat) × Tok), tg.length ≤ 8 → (∀ wd ∈ tg, wdOk wd) → pWords T f tg t = .ok q → q.1.length ≤ 8 ∧ ∀ wd ∈ q.1, wdOk wd
  | 0, tg, t, q, h1, h2, h => by
    obtain rfl := Except.ok.inj h
    exact ⟨h1, h2⟩
  | f + 1, tg, t, q, h1, h2, h => by
    by_cases hn : isN T t 1 = true
    · cases hw : pWord T tg.length t with
      | error e => rw [pWords_e hn hw] at h; cases h
      | ok w =>
        obtain ⟨wd, u⟩ := w
        obtain ⟨g1, g2⟩ := pWord_ok hw
        rw [pWords_s hn hw] at h
        refine pWords_ok f _ _ q (by rw [List.length_append]; exact g1) (fun x hx => ?_) h
        rcases List.mem_append.mp hx with g | g
        · exact h2 x g
        · obtain rfl := List.mem_singleton.mp g
          exact g2
    · rw [pWords_n hn] at h
      obtain rfl := Except.ok.inj h
      exact ⟨h1, h2⟩
theorem pTongue_ok {T : List Nat} {n : Nat} {t : Tok} {q : List (Nat × List Nat) × Tok} (h : pTongue T n t = .ok q) : n < 7 ∧ q.1.length ≤ 8 ∧ ∀ wd ∈ q.1, wdOk wd := by
  by_cases h1 : 7 ≤ n
  · rw [pTongue_f h1] at h
    cases h
  cases hs : pSemi T (tk T t.2.2) with
  | error e => rw [pTongue_e h1 hs] at h; cases h
  | ok u =>
    rw [pTongue_o h1 hs] at h
    exact ⟨by omega, pWords_ok 9 [] u q (Nat.zero_le _) (fun x hx => by simp at hx) h⟩
theorem pTongues_ok {T : List Nat} : ∀ (f : Nat) (Ts : List (List (Nat × List Nat))) (t : Tok) (q : List (List (Nat × List Nat)) × Tok), Ts.length ≤ 7 → (∀ tg ∈ Ts, tg.length ≤ 8 ∧ ∀ wd ∈ tg, wdOk wd) → pTongues T f Ts t = .ok q → q.1.length ≤ 7 ∧ (∀ tg ∈ q.1, tg.length ≤ 8 ∧ ∀ wd ∈ tg, wdOk wd) ∧ Ts.length ≤ q.1.length ∧ (isN T t 0 = true → 0 < f → Ts.length < q.1.length)
  | 0, Ts, t, q, h1, h2, h => by
    obtain rfl := Except.ok.inj h
    exact ⟨h1, h2, Nat.le_refl _, fun _ z => absurd z (Nat.lt_irrefl 0)⟩
  | f + 1, Ts, t, q, h1, h2, h => by
    by_cases hn : isN T t 0 = true
    · cases hw : pTongue T Ts.length t with
      | error e => rw [pTongues_e hn hw] at h; cases h
      | ok w =>
        obtain ⟨tg, u⟩ := w
        obtain ⟨g1, g2, g3⟩ := pTongue_ok hw
        rw [pTongues_s hn hw] at h
        have el : (Ts ++ [tg]).length = Ts.length + 1 := List.length_append
        obtain ⟨a1, a2, a3, -⟩ := pTongues_ok f _ _ q (by omega) (fun x hx => by
          rcases List.mem_append.mp hx with g | g
          · exact h2 x g
          · obtain rfl := List.mem_singleton.mp g
            exact ⟨g2, g3⟩) h
        exact ⟨a1, a2, by omega, fun _ _ => by omega⟩
    · rw [pTongues_n hn] at h
      obtain rfl := Except.ok.inj h
      exact ⟨h1, h2, Nat.le_refl _, fun z => absurd z hn⟩
theorem pPerson_ok {T : List Nat} {m n : Nat} {t : Tok} {q : Nat × Tok} (h : pPerson T m n t = .ok q) : n < 8 ∧ q.1 < 2 ^ m := by
  by_cases h1 : 8 ≤ n
  · rw [pPerson_f h1] at h
    cases h
  by_cases h2 : (tk T t.2.2).1 = 2
  · by_cases h3 : 2 ^ m ≤ nT T (tk T t.2.2)
    · rw [pPerson_b h1 h2 h3] at h
      cases h
    · cases hs : pSemi T (tk T (tk T t.2.2).2.2) with
      | error e => rw [pPerson_e h1 h2 h3 hs] at h; cases h
      | ok u =>
        rw [pPerson_o h1 h2 h3 hs] at h
        obtain rfl := Except.ok.inj h
        exact ⟨by omega, Nat.lt_of_not_le h3⟩
  · rw [pPerson_n h1 h2] at h
    cases h
theorem pPersons_ok {T : List Nat} {m : Nat} : ∀ (f : Nat) (Ps : List Nat) (t : Tok) (q : List Nat × Tok), Ps.length ≤ 8 → (∀ k ∈ Ps, k < 2 ^ m) → pPersons T m f Ps t = .ok q → q.1.length ≤ 8 ∧ ∀ k ∈ q.1, k < 2 ^ m
  | 0, Ps, t, q, h1, h2, h => by
    obtain rfl := Except.ok.inj h
    exact ⟨h1, h2⟩
  | f + 1, Ps, t, q, h1, h2, h => by
    by_cases hn : isN T t 7 = true
    · cases hw : pPerson T m Ps.length t with
      | error e => rw [pPersons_e hn hw] at h; cases h
      | ok w =>
        obtain ⟨k, u⟩ := w
        obtain ⟨g1, g2⟩ := pPerson_ok hw
        rw [pPersons_s hn hw] at h
        refine pPersons_ok f _ _ q (by rw [List.length_append]; exact g1) (fun x hx => ?_) h
        rcases List.mem_append.mp hx with g | g
        · exact h2 x g
        · obtain rfl := List.mem_singleton.mp g
          exact g2
    · rw [pPersons_n hn] at h
      obtain rfl := Except.ok.inj h
      exact ⟨h1, h2⟩
theorem pPort_ok {T : List Nat} {q : List (List (Nat × List Nat)) × List Nat} (h : pPort T = .ok q) : q.1 ≠ [] ∧ dX_ok (q.1, q.2, 0) := by
  by_cases h0 : isN T (tk T 0) 0 = true
  · cases h1 : pTongues T 8 [] (tk T 0) with
    | error e => rw [pPort_t h0 h1] at h; cases h
    | ok w =>
      obtain ⟨Ts, t⟩ := w
      obtain ⟨a1, a2, -, a4⟩ := pTongues_ok 8 [] _ _ (Nat.zero_le _) (fun x hx => by simp at hx) h1
      have a5 : 0 < Ts.length := a4 h0 (by decide)
      cases h2 : pPersons T Ts.length 9 [] t with
      | error e => rw [pPort_p h0 h1 h2] at h; cases h
      | ok w =>
        obtain ⟨Ps, u⟩ := w
        obtain ⟨b1, b2⟩ := pPersons_ok 9 [] _ _ (Nat.zero_le _) (fun x hx => by simp at hx) h2
        by_cases h3 : u.1 = 0
        · rw [pPort_o h0 h1 h2 h3] at h
          obtain rfl := Except.ok.inj h
          exact ⟨fun z => by have z : Ts = [] := z; rw [z] at a5; exact absurd a5 (Nat.lt_irrefl 0), a1, a2, b1, b2⟩
        · rw [pPort_x h0 h1 h2 h3] at h
          cases h
  · rw [pPort_0 h0] at h
    cases h
def oPort (A : dS) : Int × dS := match pPort (sT A) with
  | .error e => (-1000100 - (e.2 : Int), (sR A, [], sN A, sI A, (e.1 : Int), sS A, sC A))
  | .ok q => ((q.1.length : Int), (sR A, [], (q.1, q.2, 0), sI A, sF A, sS A, sC A))
theorem oPort_e {A : dS} {e : Nat × Nat} (h : pPort (sT A) = .error e) : oPort A = (-1000100 - (e.2 : Int), (sR A, [], sN A, sI A, (e.1 : Int), sS A, sC A)) := by
  unfold oPort
  rw [h]
theorem oPort_o {A : dS} {q : List (List (Nat × List Nat)) × List Nat} (h : pPort (sT A) = .ok q) : oPort A = ((q.1.length : Int), (sR A, [], (q.1, q.2, 0), sI A, sF A, sS A, sC A)) := by
  unfold oPort
  rw [h]
/-- the class after a text is read -/
theorem cInv.read {ex : List dt_Shp} {σ σ' : dt_Mem} {A : dS} {F : Int} {X : dX} (h : cInv ex σ A) (e : ∀ b k, (b < 7 ∨ 18 < b) → b ≠ 5 → (b ≠ 0 ∨ k ≠ 9) → σ' b k = σ b k) (e1 : σ' 5 1 = 0) (e2 : σ' 0 9 = F) (e3 : cP σ' 7 X) : cInv ex σ' (sR A, [], X, sI A, F, sS A, sC A) := by
  obtain ⟨h1, h2, h3, h4, h5, h6, h7, h8⟩ := h
  have g : ∀ b, (b < 7 ∨ 18 < b) → b ≠ 5 → b ≠ 0 → σ' b = σ b := fun b p q r => funext fun k => e b k p q (Or.inl r)
  refine ⟨h1.kept (g 2 (by omega) (by decide) (by decide)) (g 3 (by omega) (by decide) (by decide)) (g 4 (by omega) (by decide) (by decide)), ⟨Nat.zero_le _, fun x hx => absurd hx (List.not_mem_nil), e1, fun i x hx => by cases (show (none : Option Nat) = some x from hx)⟩, e3, h4.kept (fun b p q => g b (by omega) (by omega) (by omega)), h5.kept (fun b p q => g b (by omega) (by omega) (by omega)), e2, ?_, h8.kept ?_ ?_⟩
  · rw [e 0 10 (by omega) (by decide) (Or.inr (by decide))]; exact h7
  · exact e 0 8 (by omega) (by decide) (Or.inr (by decide))
  · exact fun b hb => g b (by omega) (by omega) (by omega)
theorem s_X9_placeOfToken {ex : List dt_Shp} {σ : dt_Mem}  : dt_Sp mX9_placeOfToken 0 0 0 [dt_R 5] (dt_SH ++ ex) σ (fun v sh2 σ2 => v = some (dt_I (σ 5 3)) ∧ sh2 = dt_SH ++ ex ∧ σ2 = σ) := by
  refine dt_Sp_of (by decide) (Nat.le_of_ble_eq_true rfl) ?_
  refine dt_wfV fun hwf => ?_
  show dt_V _ _ _ 0 0 0 [some (dt_R 5)] [] _ _
  refine dt_aloadn dX9_placeOfToken_0 rfl rfl ?_
  refine dt_getI dX9_placeOfToken_1 pg_X9_22_9 rfl rfl ?_
  refine dt_iret dX9_placeOfToken_4 rfl (by decide) (by decide) ?_
  exact ⟨rfl, rfl, rfl⟩
theorem s_X9_empty {ex : List dt_Shp} {σ : dt_Mem}  : dt_Sp mX9_empty 0 0 0 [dt_R 5] (dt_SH ++ ex) σ (fun v sh2 σ2 => v = none ∧ sh2 = dt_SH ++ ex ∧ σ2 = dt_up (dt_up (dt_up (dt_up σ 5 1 0) 5 3 0) 5 4 0) 5 2 0) := by
  refine dt_Sp_of (by decide) (Nat.le_of_ble_eq_true rfl) ?_
  refine dt_wfV fun hwf => ?_
  show dt_V _ _ _ 0 0 0 [some (dt_R 5)] [] _ _
  refine dt_aloadn dX9_empty_0 rfl rfl ?_
  refine dt_iconst dX9_empty_1 ?_
  refine dt_wfV fun hwf => ?_
  refine dt_putI dX9_empty_2 pw_X9_18_9 rfl rfl (by first | assumption | exact hwf _ _ | exact dt_b32 _ | omega | exact ⟨by omega, by omega⟩ | decide | exact ⟨by simp (disch := omega) only [dt_up_s, dt_up_k, dt_up_n]; omega, by simp (disch := omega) only [dt_up_s, dt_up_k, dt_up_n]; omega⟩) ?_
  refine dt_aloadn dX9_empty_5 rfl rfl ?_
  refine dt_iconst dX9_empty_6 ?_
  refine dt_wfV fun hwf => ?_
  refine dt_putI dX9_empty_7 pw_X9_22_9 rfl rfl (by first | assumption | exact hwf _ _ | exact dt_b32 _ | omega | exact ⟨by omega, by omega⟩ | decide | exact ⟨by simp (disch := omega) only [dt_up_s, dt_up_k, dt_up_n]; omega, by simp (disch := omega) only [dt_up_s, dt_up_k, dt_up_n]; omega⟩) ?_
  refine dt_aloadn dX9_empty_10 rfl rfl ?_
  refine dt_iconst dX9_empty_11 ?_
  refine dt_wfV fun hwf => ?_
  refine dt_putI dX9_empty_12 pw_X9_25_9 rfl rfl (by first | assumption | exact hwf _ _ | exact dt_b32 _ | omega | exact ⟨by omega, by omega⟩ | decide | exact ⟨by simp (disch := omega) only [dt_up_s, dt_up_k, dt_up_n]; omega, by simp (disch := omega) only [dt_up_s, dt_up_k, dt_up_n]; omega⟩) ?_
  refine dt_aloadn dX9_empty_15 rfl rfl ?_
  refine dt_iconst dX9_empty_16 ?_
  refine dt_wfV fun hwf => ?_
  refine dt_putI dX9_empty_17 pw_X9_28_9 rfl rfl (by first | assumption | exact hwf _ _ | exact dt_b32 _ | omega | exact ⟨by omega, by omega⟩ | decide | exact ⟨by simp (disch := omega) only [dt_up_s, dt_up_k, dt_up_n]; omega, by simp (disch := omega) only [dt_up_s, dt_up_k, dt_up_n]; omega⟩) ?_
  refine dt_vret dX9_empty_20 rfl (by decide) (by decide) ?_
  exact ⟨rfl, rfl, rfl⟩
theorem s_X9_readInto {ex : List dt_Shp} {σ : dt_Mem} {T : List Nat} (hT : cTape σ T) : dt_Sp mX9_readInto 8 0 0 [dt_R 5, dt_R 13] (dt_SH ++ ex) σ (fun v sh2 σ2 => v = some (dt_I ((pF (pPort T) : Nat) : Int)) ∧ sh2 = dt_SH ++ ex ∧ cF σ σ2 ∧ cR σ2 (pPort T) (fun q => cPort σ2 13 (q.1, q.2, 0))) := by
  refine dt_Sp_of (by decide) (Nat.le_of_ble_eq_true rfl) ?_
  refine dt_wfV fun hwf => ?_
  show dt_V _ _ _ 0 0 0 [some (dt_R 5), some (dt_R 13), none, none] [] _ _
  refine dt_aloadn dX9_readInto_0 rfl rfl ?_
  refine dt_xV dX9_readInto_1 pc_X9_31 dt_p13.1 (s_X6_clear (X := ([], [], 0)) dt_p13) rfl rfl ⟨by decide, by decide⟩ rfl rfl (Nat.le_of_ble_eq_true rfl) ⟨by decide, by decide⟩ ?_
  intro v1 sh1 σ1 hq1
  obtain ⟨rfl, hs1, hf1, hX1⟩ := hq1
  obtain rfl := hs1.symm
  refine dt_aloadn dX9_readInto_4 rfl rfl ?_
  refine dt_iconst dX9_readInto_5 ?_
  refine dt_wfV fun hwf => ?_
  refine dt_putI dX9_readInto_6 pw_X9_25_9 rfl rfl (by first | assumption | exact hwf _ _ | exact dt_b32 _ | omega | exact ⟨by omega, by omega⟩ | decide | exact ⟨by simp (disch := omega) only [dt_up_s, dt_up_k, dt_up_n]; omega, by simp (disch := omega) only [dt_up_s, dt_up_k, dt_up_n]; omega⟩) ?_
  have hT1 : cTape (dt_up σ1 5 4 0) T := (cTape.kept hT (by rw [hf1 5 (by omega)]) (hf1 6 (by omega))).kept (dt_up_k (by decide)) (dt_up_o (by decide))
  refine dt_aloadn dX9_readInto_9 rfl rfl ?_
  refine dt_xV dX9_readInto_10 pc_X9_36 rfl (s_X9_next hT1 (show dt_up σ1 5 4 0 5 4 = ((0 : Nat) : Int) from dt_up_s) (Nat.zero_le _)) rfl rfl ⟨by decide, by decide⟩ rfl rfl (Nat.le_of_ble_eq_true rfl) ⟨by decide, by decide⟩ ?_
  intro v2 sh2 σ2 hq2
  obtain ⟨rfl, hs2, hf2, ha2, hb2, hc2⟩ := hq2
  obtain rfl := hs2.symm
  have hK2 := cK.of hT1 hf2 (Nat.zero_le _) ha2 hb2 hc2
  have hcf : cF σ σ2 := (pF_c hf1).tr (cF.tr (fun b k h1 h2 => dt_up_ne (by omega)) hf2.c)
  refine dt_aloadn dX9_readInto_13 rfl rfl ?_
  refine dt_ldcS 0 dX9_readInto_14 (by decide) rfl rfl ?_
  refine dt_xV dX9_readInto_16 pc_X9_41 rfl (s_X9_isName hK2 (show 0 < 8 by decide)) rfl rfl ⟨by decide, by decide⟩ rfl rfl (Nat.le_of_ble_eq_true rfl) ⟨by decide, by decide⟩ (dt_k3 ?_)
  refine dt_if_ne (tgt := 24) dX9_readInto_19 (by decide) (by first | assumption | exact hwf _ _ | exact dt_b32 _ | omega | exact ⟨by omega, by omega⟩ | decide | exact ⟨by simp (disch := omega) only [dt_up_s, dt_up_k, dt_up_n]; omega, by simp (disch := omega) only [dt_up_s, dt_up_k, dt_up_n]; omega⟩) (fun c1 => ?_) (fun c1 => ?_)
  · skip
    try simp only [dt_b0, dt_b1, Decidable.not_not, Classical.not_not] at c1
    have h0 : isN T (tk T 0) 0 = true := by assumption
    refine dt_iconst dX9_readInto_24 ?_
    refine dt_istoren dX9_readInto_25 rfl (by decide) rfl ?_
    dsimp only [List.set]
    have lp26 : ∀ (fu : Nat) (Ts : List (List (Nat × List Nat))) (t1 : Tok) (σ1 : dt_Mem), 8 - (Ts.length : Int) < (fu : Int) → (Ts.length ≤ 8) → (cK σ1 T t1) → (cPort σ1 13 (Ts, [], 0)) → (cF σ σ1) → (pTongues T (8 - Ts.length) Ts t1 = pTongues T 8 [] (tk T 0)) →  dt_V mX9_readInto (dt_rm 8 0 0) (dt_MC (fun v sh2 σ2 => v = some (dt_I ((pF (pPort T) : Nat) : Int)) ∧ sh2 = dt_SH ++ ex ∧ cF σ σ2 ∧ cR σ2 (pPort T) (fun q => cPort σ2 13 (q.1, q.2, 0))) 0 0) 0 0 26 [some (dt_R 5), some (dt_R 13), some (dt_I (Ts.length : Int)), none] [] (dt_SH ++ ex) σ1 := by
      intro fu
      induction fu with
      | zero =>
        intro Ts t1 σ1 hm jl jK jX jf jr
        exfalso
        omega
      | succ fu ih =>
        intro Ts t1 σ1 hm jl jK jX jf jr
        refine dt_wfV fun hwf => ?_
        refine dt_iloadn dX9_readInto_26 rfl rfl ?_
        refine dt_bipush dX9_readInto_27 (by decide) ?_
        refine dt_cm_gt (tgt := 59) dX9_readInto_29 (by decide) (by first | assumption | exact hwf _ _ | exact dt_b32 _ | omega | exact ⟨by omega, by omega⟩ | decide | exact ⟨by simp (disch := omega) only [dt_up_s, dt_up_k, dt_up_n]; omega, by simp (disch := omega) only [dt_up_s, dt_up_k, dt_up_n]; omega⟩) (by first | assumption | exact hwf _ _ | exact dt_b32 _ | omega | exact ⟨by omega, by omega⟩ | decide | exact ⟨by simp (disch := omega) only [dt_up_s, dt_up_k, dt_up_n]; omega, by simp (disch := omega) only [dt_up_s, dt_up_k, dt_up_n]; omega⟩) (fun c2 => ?_) (fun c2 => ?_)
        · skip
          have jo : pTongues T 8 [] (tk T 0) = .ok (Ts, t1) := by rw [← jr, show 8 - Ts.length = 0 by omega]; rfl
          refine dt_iconst dX9_readInto_59 ?_
          refine dt_istoren dX9_readInto_60 rfl (by decide) rfl ?_
          dsimp only [List.set]
          have lp61 : ∀ (fu : Nat) (Ps : List Nat) (t2 : Tok) (σ1b : dt_Mem), 9 - (Ps.length : Int) < (fu : Int) → (Ps.length ≤ 9) → (cK σ1b T t2) → (cPort σ1b 13 (Ts, Ps, 0)) → (cF σ σ1b) → (pPersons T Ts.length (9 - Ps.length) Ps t2 = pPersons T Ts.length 9 [] t1) →  dt_V mX9_readInto (dt_rm 8 0 0) (dt_MC (fun v sh2 σ2 => v = some (dt_I ((pF (pPort T) : Nat) : Int)) ∧ sh2 = dt_SH ++ ex ∧ cF σ σ2 ∧ cR σ2 (pPort T) (fun q => cPort σ2 13 (q.1, q.2, 0))) 0 0) 0 0 61 [some (dt_R 5), some (dt_R 13), some (dt_I (Ps.length : Int)), none] [] (dt_SH ++ ex) σ1b := by
            intro fu
            induction fu with
            | zero =>
              intro Ps t2 σ1b hm kl kK kX kf kr
              exfalso
              omega
            | succ fu ih =>
              intro Ps t2 σ1b hm kl kK kX kf kr
              refine dt_wfV fun hwf => ?_
              refine dt_iloadn dX9_readInto_61 rfl rfl ?_
              refine dt_bipush dX9_readInto_62 (by decide) ?_
              refine dt_cm_gt (tgt := 94) dX9_readInto_64 (by decide) (by first | assumption | exact hwf _ _ | exact dt_b32 _ | omega | exact ⟨by omega, by omega⟩ | decide | exact ⟨by simp (disch := omega) only [dt_up_s, dt_up_k, dt_up_n]; omega, by simp (disch := omega) only [dt_up_s, dt_up_k, dt_up_n]; omega⟩) (by first | assumption | exact hwf _ _ | exact dt_b32 _ | omega | exact ⟨by omega, by omega⟩ | decide | exact ⟨by simp (disch := omega) only [dt_up_s, dt_up_k, dt_up_n]; omega, by simp (disch := omega) only [dt_up_s, dt_up_k, dt_up_n]; omega⟩) (fun c3 => ?_) (fun c3 => ?_)
              · skip
                have po : pPersons T Ts.length 9 [] t1 = .ok (Ps, t2) := by rw [← kr, show 9 - Ps.length = 0 by omega]; rfl
                refine dt_aloadn dX9_readInto_94 rfl rfl ?_
                refine dt_getI dX9_readInto_95 pg_X9_28_9 rfl rfl ?_
                refine dt_if_ne (tgt := 105) dX9_readInto_98 (by decide) (by first | assumption | exact hwf _ _ | exact dt_b32 _ | omega | exact ⟨by omega, by omega⟩ | decide | exact ⟨by simp (disch := omega) only [dt_up_s, dt_up_k, dt_up_n]; omega, by simp (disch := omega) only [dt_up_s, dt_up_k, dt_up_n]; omega⟩) (fun c4 => ?_) (fun c4 => ?_)
                · skip
                  refine dt_iconst dX9_readInto_105 ?_
                  refine dt_iret dX9_readInto_106 rfl (by decide) (by decide) ?_
                  obtain ⟨kT, ⟨ks1, ks2, ks3⟩, -⟩ := id kK
                  first | (rw [pPort_o h0 jo po (by omega)]; exact ⟨rfl, rfl, kf, kX⟩) | (rw [pPort_x h0 jo po (by omega)]; exact ⟨rfl, rfl, kf, cR_e (by decide) (by decide) ks2⟩)
                · skip
                  refine dt_iconst dX9_readInto_101 ?_
                  refine dt_goto (tgt := 106) dX9_readInto_102 (by decide) ?_
                  refine dt_iret dX9_readInto_106 rfl (by decide) (by decide) ?_
                  obtain ⟨kT, ⟨ks1, ks2, ks3⟩, -⟩ := id kK
                  first | (rw [pPort_o h0 jo po (by omega)]; exact ⟨rfl, rfl, kf, kX⟩) | (rw [pPort_x h0 jo po (by omega)]; exact ⟨rfl, rfl, kf, cR_e (by decide) (by decide) ks2⟩)
              · skip
                obtain ⟨z, hz⟩ : ∃ z, 9 - Ps.length = z + 1 := ⟨9 - Ps.length - 1, by omega⟩
                rw [hz] at kr
                refine dt_aloadn dX9_readInto_67 rfl rfl ?_
                refine dt_ldcS 7 dX9_readInto_68 (by decide) rfl rfl ?_
                refine dt_xV dX9_readInto_70 pc_X9_41 rfl (s_X9_isName kK (show 7 < 8 by decide)) rfl rfl ⟨by decide, by decide⟩ rfl rfl (Nat.le_of_ble_eq_true rfl) ⟨by decide, by decide⟩ (dt_k3 ?_)
                refine dt_if_eq (tgt := 94) dX9_readInto_73 (by decide) (by first | assumption | exact hwf _ _ | exact dt_b32 _ | omega | exact ⟨by omega, by omega⟩ | decide | exact ⟨by simp (disch := omega) only [dt_up_s, dt_up_k, dt_up_n]; omega, by simp (disch := omega) only [dt_up_s, dt_up_k, dt_up_n]; omega⟩) (fun c5 => ?_) (fun c5 => ?_)
                · skip
                  try simp only [dt_b0, dt_b1, Decidable.not_not, Classical.not_not] at c5
                  have po : pPersons T Ts.length 9 [] t1 = .ok (Ps, t2) := by rw [← kr]; exact pPersons_n (by assumption)
                  refine dt_aloadn dX9_readInto_94 rfl rfl ?_
                  refine dt_getI dX9_readInto_95 pg_X9_28_9 rfl rfl ?_
                  refine dt_if_ne (tgt := 105) dX9_readInto_98 (by decide) (by first | assumption | exact hwf _ _ | exact dt_b32 _ | omega | exact ⟨by omega, by omega⟩ | decide | exact ⟨by simp (disch := omega) only [dt_up_s, dt_up_k, dt_up_n]; omega, by simp (disch := omega) only [dt_up_s, dt_up_k, dt_up_n]; omega⟩) (fun c6 => ?_) (fun c6 => ?_)
                  · skip
                    refine dt_iconst dX9_readInto_105 ?_
                    refine dt_iret dX9_readInto_106 rfl (by decide) (by decide) ?_
                    obtain ⟨kT, ⟨ks1, ks2, ks3⟩, -⟩ := id kK
                    first | (rw [pPort_o h0 jo po (by omega)]; exact ⟨rfl, rfl, kf, kX⟩) | (rw [pPort_x h0 jo po (by omega)]; exact ⟨rfl, rfl, kf, cR_e (by decide) (by decide) ks2⟩)
                  · skip
                    refine dt_iconst dX9_readInto_101 ?_
                    refine dt_goto (tgt := 106) dX9_readInto_102 (by decide) ?_
                    refine dt_iret dX9_readInto_106 rfl (by decide) (by decide) ?_
                    obtain ⟨kT, ⟨ks1, ks2, ks3⟩, -⟩ := id kK
                    first | (rw [pPort_o h0 jo po (by omega)]; exact ⟨rfl, rfl, kf, kX⟩) | (rw [pPort_x h0 jo po (by omega)]; exact ⟨rfl, rfl, kf, cR_e (by decide) (by decide) ks2⟩)
                · skip
                  try simp only [dt_b0, dt_b1, Decidable.not_not, Classical.not_not] at c5
                  have hc7 : isN T t2 7 = true := by assumption
                  refine dt_aloadn dX9_readInto_76 rfl rfl ?_
                  refine dt_aloadn dX9_readInto_77 rfl rfl ?_
                  refine dt_xV dX9_readInto_78 pc_X9_51 rfl (s_X9_readPerson kK kX) rfl rfl ⟨by decide, by decide⟩ rfl rfl (Nat.le_of_ble_eq_true rfl) ⟨by decide, by decide⟩ ?_
                  intro vb shb σb hqb
                  obtain ⟨rfl, hsb, hfb, hRb⟩ := hqb
                  obtain rfl := hsb.symm
                  refine dt_istoren dX9_readInto_81 rfl (by decide) rfl ?_
                  dsimp only [List.set]
                  refine dt_iloadn dX9_readInto_82 rfl rfl ?_
                  refine dt_if_eq (tgt := 88) dX9_readInto_83 (by decide) hRb.i (fun c7 => ?_) (fun c7 => ?_)
                  · skip
                    obtain ⟨-, ⟨q, u⟩, he, hKu, hXu⟩ | ⟨e, he, hpe, h1e, h2e, h3e⟩ := hRb.c
                    rotate_left
                    · omega
                    refine dt_iinc dX9_readInto_88 rfl (by decide) rfl ?_
                    dsimp only [List.set]
                    refine dt_goto (tgt := 61) dX9_readInto_91 (by decide) ?_
                    have el : (Ps ++ [q]).length = Ps.length + 1 := List.length_append
                    exact dt_lb (ih (Ps ++ [q]) u σb (by omega) (by omega) hKu hXu (kf.tr hfb) (by rw [show 9 - (Ps ++ [q]).length = z by omega]; exact (pPersons_s hc7 he).symm.trans kr)) ⟨rfl, rfl, (dt_ie (by rw [List.length_append]; rfl)), trivial⟩
                  · skip
                    obtain ⟨h0b, -⟩ | ⟨e, he, hpe, h1e, h2e, h3e⟩ := hRb.c
                    · omega
                    refine dt_iloadn dX9_readInto_86 rfl rfl ?_
                    refine dt_iret dX9_readInto_87 rfl (by decide) (by decide) ?_
                    rw [show pPort T = .error e from pPort_p h0 jo (kr.symm.trans (pPersons_e hc7 he)), he]
                    exact ⟨rfl, rfl, kf.tr hfb, h1e, h2e, h3e⟩
          exact dt_lb (lp61 10 [] t1 σ1 (by show 9 - ((0 : Nat) : Int) < _; omega) (Nat.zero_le _) jK jX jf rfl) ⟨rfl, rfl, rfl, trivial⟩
        · skip
          obtain ⟨z, hz⟩ : ∃ z, 8 - Ts.length = z + 1 := ⟨8 - Ts.length - 1, by omega⟩
          rw [hz] at jr
          refine dt_aloadn dX9_readInto_32 rfl rfl ?_
          refine dt_ldcS 0 dX9_readInto_33 (by decide) rfl rfl ?_
          refine dt_xV dX9_readInto_35 pc_X9_41 rfl (s_X9_isName jK (show 0 < 8 by decide)) rfl rfl ⟨by decide, by decide⟩ rfl rfl (Nat.le_of_ble_eq_true rfl) ⟨by decide, by decide⟩ (dt_k3 ?_)
          refine dt_if_eq (tgt := 59) dX9_readInto_38 (by decide) (by first | assumption | exact hwf _ _ | exact dt_b32 _ | omega | exact ⟨by omega, by omega⟩ | decide | exact ⟨by simp (disch := omega) only [dt_up_s, dt_up_k, dt_up_n]; omega, by simp (disch := omega) only [dt_up_s, dt_up_k, dt_up_n]; omega⟩) (fun c8 => ?_) (fun c8 => ?_)
          · skip
            try simp only [dt_b0, dt_b1, Decidable.not_not, Classical.not_not] at c8
            have jo : pTongues T 8 [] (tk T 0) = .ok (Ts, t1) := by rw [← jr]; exact pTongues_n (by assumption)
            refine dt_iconst dX9_readInto_59 ?_
            refine dt_istoren dX9_readInto_60 rfl (by decide) rfl ?_
            dsimp only [List.set]
            have lp61 : ∀ (fu : Nat) (Ps : List Nat) (t2 : Tok) (σ1b : dt_Mem), 9 - (Ps.length : Int) < (fu : Int) → (Ps.length ≤ 9) → (cK σ1b T t2) → (cPort σ1b 13 (Ts, Ps, 0)) → (cF σ σ1b) → (pPersons T Ts.length (9 - Ps.length) Ps t2 = pPersons T Ts.length 9 [] t1) →  dt_V mX9_readInto (dt_rm 8 0 0) (dt_MC (fun v sh2 σ2 => v = some (dt_I ((pF (pPort T) : Nat) : Int)) ∧ sh2 = dt_SH ++ ex ∧ cF σ σ2 ∧ cR σ2 (pPort T) (fun q => cPort σ2 13 (q.1, q.2, 0))) 0 0) 0 0 61 [some (dt_R 5), some (dt_R 13), some (dt_I (Ps.length : Int)), none] [] (dt_SH ++ ex) σ1b := by
              intro fu
              induction fu with
              | zero =>
                intro Ps t2 σ1b hm kl kK kX kf kr
                exfalso
                omega
              | succ fu ih =>
                intro Ps t2 σ1b hm kl kK kX kf kr
                refine dt_wfV fun hwf => ?_
                refine dt_iloadn dX9_readInto_61 rfl rfl ?_
                refine dt_bipush dX9_readInto_62 (by decide) ?_
                refine dt_cm_gt (tgt := 94) dX9_readInto_64 (by decide) (by first | assumption | exact hwf _ _ | exact dt_b32 _ | omega | exact ⟨by omega, by omega⟩ | decide | exact ⟨by simp (disch := omega) only [dt_up_s, dt_up_k, dt_up_n]; omega, by simp (disch := omega) only [dt_up_s, dt_up_k, dt_up_n]; omega⟩) (by first | assumption | exact hwf _ _ | exact dt_b32 _ | omega | exact ⟨by omega, by omega⟩ | decide | exact ⟨by simp (disch := omega) only [dt_up_s, dt_up_k, dt_up_n]; omega, by simp (disch := omega) only [dt_up_s, dt_up_k, dt_up_n]; omega⟩) (fun c9 => ?_) (fun c9 => ?_)
                · skip
                  have po : pPersons T Ts.length 9 [] t1 = .ok (Ps, t2) := by rw [← kr, show 9 - Ps.length = 0 by omega]; rfl
                  refine dt_aloadn dX9_readInto_94 rfl rfl ?_
                  refine dt_getI dX9_readInto_95 pg_X9_28_9 rfl rfl ?_
                  refine dt_if_ne (tgt := 105) dX9_readInto_98 (by decide) (by first | assumption | exact hwf _ _ | exact dt_b32 _ | omega | exact ⟨by omega, by omega⟩ | decide | exact ⟨by simp (disch := omega) only [dt_up_s, dt_up_k, dt_up_n]; omega, by simp (disch := omega) only [dt_up_s, dt_up_k, dt_up_n]; omega⟩) (fun c10 => ?_) (fun c10 => ?_)
                  · skip
                    refine dt_iconst dX9_readInto_105 ?_
                    refine dt_iret dX9_readInto_106 rfl (by decide) (by decide) ?_
                    obtain ⟨kT, ⟨ks1, ks2, ks3⟩, -⟩ := id kK
                    first | (rw [pPort_o h0 jo po (by omega)]; exact ⟨rfl, rfl, kf, kX⟩) | (rw [pPort_x h0 jo po (by omega)]; exact ⟨rfl, rfl, kf, cR_e (by decide) (by decide) ks2⟩)
                  · skip
                    refine dt_iconst dX9_readInto_101 ?_
                    refine dt_goto (tgt := 106) dX9_readInto_102 (by decide) ?_
                    refine dt_iret dX9_readInto_106 rfl (by decide) (by decide) ?_
                    obtain ⟨kT, ⟨ks1, ks2, ks3⟩, -⟩ := id kK
                    first | (rw [pPort_o h0 jo po (by omega)]; exact ⟨rfl, rfl, kf, kX⟩) | (rw [pPort_x h0 jo po (by omega)]; exact ⟨rfl, rfl, kf, cR_e (by decide) (by decide) ks2⟩)
                · skip
                  obtain ⟨z, hz⟩ : ∃ z, 9 - Ps.length = z + 1 := ⟨9 - Ps.length - 1, by omega⟩
                  rw [hz] at kr
                  refine dt_aloadn dX9_readInto_67 rfl rfl ?_
                  refine dt_ldcS 7 dX9_readInto_68 (by decide) rfl rfl ?_
                  refine dt_xV dX9_readInto_70 pc_X9_41 rfl (s_X9_isName kK (show 7 < 8 by decide)) rfl rfl ⟨by decide, by decide⟩ rfl rfl (Nat.le_of_ble_eq_true rfl) ⟨by decide, by decide⟩ (dt_k3 ?_)
                  refine dt_if_eq (tgt := 94) dX9_readInto_73 (by decide) (by first | assumption | exact hwf _ _ | exact dt_b32 _ | omega | exact ⟨by omega, by omega⟩ | decide | exact ⟨by simp (disch := omega) only [dt_up_s, dt_up_k, dt_up_n]; omega, by simp (disch := omega) only [dt_up_s, dt_up_k, dt_up_n]; omega⟩) (fun c11 => ?_) (fun c11 => ?_)
                  · skip
                    try simp only [dt_b0, dt_b1, Decidable.not_not, Classical.not_not] at c11
                    have po : pPersons T Ts.length 9 [] t1 = .ok (Ps, t2) := by rw [← kr]; exact pPersons_n (by assumption)
                    refine dt_aloadn dX9_readInto_94 rfl rfl ?_
                    refine dt_getI dX9_readInto_95 pg_X9_28_9 rfl rfl ?_
                    refine dt_if_ne (tgt := 105) dX9_readInto_98 (by decide) (by first | assumption | exact hwf _ _ | exact dt_b32 _ | omega | exact ⟨by omega, by omega⟩ | decide | exact ⟨by simp (disch := omega) only [dt_up_s, dt_up_k, dt_up_n]; omega, by simp (disch := omega) only [dt_up_s, dt_up_k, dt_up_n]; omega⟩) (fun c12 => ?_) (fun c12 => ?_)
                    · skip
                      refine dt_iconst dX9_readInto_105 ?_
                      refine dt_iret dX9_readInto_106 rfl (by decide) (by decide) ?_
                      obtain ⟨kT, ⟨ks1, ks2, ks3⟩, -⟩ := id kK
                      first | (rw [pPort_o h0 jo po (by omega)]; exact ⟨rfl, rfl, kf, kX⟩) | (rw [pPort_x h0 jo po (by omega)]; exact ⟨rfl, rfl, kf, cR_e (by decide) (by decide) ks2⟩)
                    · skip
                      refine dt_iconst dX9_readInto_101 ?_
                      refine dt_goto (tgt := 106) dX9_readInto_102 (by decide) ?_
                      refine dt_iret dX9_readInto_106 rfl (by decide) (by decide) ?_
                      obtain ⟨kT, ⟨ks1, ks2, ks3⟩, -⟩ := id kK
                      first | (rw [pPort_o h0 jo po (by omega)]; exact ⟨rfl, rfl, kf, kX⟩) | (rw [pPort_x h0 jo po (by omega)]; exact ⟨rfl, rfl, kf, cR_e (by decide) (by decide) ks2⟩)
                  · skip
                    try simp only [dt_b0, dt_b1, Decidable.not_not, Classical.not_not] at c11
                    have hc7 : isN T t2 7 = true := by assumption
                    refine dt_aloadn dX9_readInto_76 rfl rfl ?_
                    refine dt_aloadn dX9_readInto_77 rfl rfl ?_
                    refine dt_xV dX9_readInto_78 pc_X9_51 rfl (s_X9_readPerson kK kX) rfl rfl ⟨by decide, by decide⟩ rfl rfl (Nat.le_of_ble_eq_true rfl) ⟨by decide, by decide⟩ ?_
                    intro vb shb σb hqb
                    obtain ⟨rfl, hsb, hfb, hRb⟩ := hqb
                    obtain rfl := hsb.symm
                    refine dt_istoren dX9_readInto_81 rfl (by decide) rfl ?_
                    dsimp only [List.set]
                    refine dt_iloadn dX9_readInto_82 rfl rfl ?_
                    refine dt_if_eq (tgt := 88) dX9_readInto_83 (by decide) hRb.i (fun c13 => ?_) (fun c13 => ?_)
                    · skip
                      obtain ⟨-, ⟨q, u⟩, he, hKu, hXu⟩ | ⟨e, he, hpe, h1e, h2e, h3e⟩ := hRb.c
                      rotate_left
                      · omega
                      refine dt_iinc dX9_readInto_88 rfl (by decide) rfl ?_
                      dsimp only [List.set]
                      refine dt_goto (tgt := 61) dX9_readInto_91 (by decide) ?_
                      have el : (Ps ++ [q]).length = Ps.length + 1 := List.length_append
                      exact dt_lb (ih (Ps ++ [q]) u σb (by omega) (by omega) hKu hXu (kf.tr hfb) (by rw [show 9 - (Ps ++ [q]).length = z by omega]; exact (pPersons_s hc7 he).symm.trans kr)) ⟨rfl, rfl, (dt_ie (by rw [List.length_append]; rfl)), trivial⟩
                    · skip
                      obtain ⟨h0b, -⟩ | ⟨e, he, hpe, h1e, h2e, h3e⟩ := hRb.c
                      · omega
                      refine dt_iloadn dX9_readInto_86 rfl rfl ?_
                      refine dt_iret dX9_readInto_87 rfl (by decide) (by decide) ?_
                      rw [show pPort T = .error e from pPort_p h0 jo (kr.symm.trans (pPersons_e hc7 he)), he]
                      exact ⟨rfl, rfl, kf.tr hfb, h1e, h2e, h3e⟩
            exact dt_lb (lp61 10 [] t1 σ1 (by show 9 - ((0 : Nat) : Int) < _; omega) (Nat.zero_le _) jK jX jf rfl) ⟨rfl, rfl, rfl, trivial⟩
          · skip
            try simp only [dt_b0, dt_b1, Decidable.not_not, Classical.not_not] at c8
            have hc4 : isN T t1 0 = true := by assumption
            refine dt_aloadn dX9_readInto_41 rfl rfl ?_
            refine dt_aloadn dX9_readInto_42 rfl rfl ?_
            refine dt_xV dX9_readInto_43 pc_X9_45 rfl (s_X9_readTongue jK jX) rfl rfl ⟨by decide, by decide⟩ rfl rfl (Nat.le_of_ble_eq_true rfl) ⟨by decide, by decide⟩ ?_
            intro va sha σa hqa
            obtain ⟨rfl, hsa, hfa, hRa⟩ := hqa
            obtain rfl := hsa.symm
            refine dt_istoren dX9_readInto_46 rfl (by decide) rfl ?_
            dsimp only [List.set]
            refine dt_iloadn dX9_readInto_47 rfl rfl ?_
            refine dt_if_eq (tgt := 53) dX9_readInto_48 (by decide) hRa.i (fun c14 => ?_) (fun c14 => ?_)
            · skip
              obtain ⟨-, ⟨q, u⟩, he, hKu, hXu⟩ | ⟨e, he, hpe, h1e, h2e, h3e⟩ := hRa.c
              rotate_left
              · omega
              refine dt_iinc dX9_readInto_53 rfl (by decide) rfl ?_
              dsimp only [List.set]
              refine dt_goto (tgt := 26) dX9_readInto_56 (by decide) ?_
              have el : (Ts ++ [q]).length = Ts.length + 1 := List.length_append
              exact dt_lb (ih (Ts ++ [q]) u σa (by omega) (by omega) hKu hXu (jf.tr hfa) (by rw [show 8 - (Ts ++ [q]).length = z by omega]; exact (pTongues_s hc4 he).symm.trans jr)) ⟨rfl, rfl, (dt_ie (by rw [List.length_append]; rfl)), trivial⟩
            · skip
              obtain ⟨h0b, -⟩ | ⟨e, he, hpe, h1e, h2e, h3e⟩ := hRa.c
              · omega
              refine dt_iloadn dX9_readInto_51 rfl rfl ?_
              refine dt_iret dX9_readInto_52 rfl (by decide) (by decide) ?_
              rw [show pPort T = .error e from pPort_t h0 (jr.symm.trans (pTongues_e hc4 he)), he]
              exact ⟨rfl, rfl, jf.tr hfa, h1e, h2e, h3e⟩
    exact dt_lb (lp26 9 [] (tk T 0) σ2 (by show 8 - ((0 : Nat) : Int) < _; omega) (Nat.zero_le _) hK2 (hf2.P (hX1.kept (fun b h1 h2 => dt_up_o (by omega)))) hcf rfl) ⟨rfl, rfl, rfl, trivial⟩
  · skip
    try simp only [dt_b0, dt_b1, Decidable.not_not, Classical.not_not] at c1
    refine dt_iconst dX9_readInto_22 ?_
    refine dt_iret dX9_readInto_23 rfl (by decide) (by decide) ?_
    rw [pPort_0 (by assumption)]
    exact ⟨rfl, rfl, hcf, cR_e (by decide) (by decide) hb2⟩
theorem s_X11_port {ex : List dt_Shp} {σ : dt_Mem} {A : dS} (hI : cInv ex σ A) : dt_Sp mX11_port 9 0 0 [dt_R 0] (dt_SH ++ ex) σ (fun v sh2 σ2 => v = some (dt_I (oPort A).1) ∧ sh2 = dt_SH ++ ex ∧ cEnd ex σ σ2 (oPort A).2) := by
  refine dt_Sp_of (by decide) (Nat.le_of_ble_eq_true rfl) ?_
  refine dt_wfV fun hwf => ?_
  show dt_V _ _ _ 0 0 0 [some (dt_R 0), none, none] [] _ _
  refine dt_aloadn dX11_port_0 rfl rfl ?_
  refine dt_getR dX11_port_1 pg_X11_19_11 rfl rfl ?_
  refine dt_aloadn dX11_port_4 rfl rfl ?_
  refine dt_getR dX11_port_5 pg_X11_30_11 rfl rfl ?_
  refine dt_xV dX11_port_8 pc_X11_114 rfl (s_X9_readInto hI.2.1) rfl rfl ⟨by decide, by decide⟩ rfl rfl (Nat.le_of_ble_eq_true rfl) ⟨by decide, by decide⟩ ?_
  intro v1 sh1 σ1 hq1
  obtain ⟨rfl, hs1, hf1, hR1⟩ := hq1
  obtain rfl := hs1.symm
  refine dt_istoren dX11_port_11 rfl (by decide) rfl ?_
  dsimp only [List.set]
  refine dt_aloadn dX11_port_12 rfl rfl ?_
  refine dt_getR dX11_port_13 pg_X11_19_11 rfl rfl ?_
  refine dt_xV dX11_port_16 pc_X11_118 rfl s_X9_placeOfToken rfl rfl ⟨by decide, by decide⟩ rfl rfl (Nat.le_of_ble_eq_true rfl) ⟨by decide, by decide⟩ (dt_k3 ?_)
  refine dt_istoren dX11_port_19 rfl (by decide) rfl ?_
  dsimp only [List.set]
  refine dt_aloadn dX11_port_20 rfl rfl ?_
  refine dt_getR dX11_port_21 pg_X11_19_11 rfl rfl ?_
  refine dt_xV dX11_port_24 pc_X11_122 rfl s_X9_empty rfl rfl ⟨by decide, by decide⟩ rfl rfl (Nat.le_of_ble_eq_true rfl) ⟨by decide, by decide⟩ (dt_k3 ?_)
  refine dt_iloadn dX11_port_27 rfl rfl ?_
  refine dt_if_eq (tgt := 41) dX11_port_28 (by decide) hR1.i (fun c1 => ?_) (fun c1 => ?_)
  · skip
    obtain ⟨-, q, he, hXq⟩ | ⟨e, he, hpe, h1e, h2e, h3e⟩ := hR1.c
    rotate_left
    · omega
    refine dt_aloadn dX11_port_41 rfl rfl ?_
    refine dt_getR dX11_port_42 pg_X11_26_11 rfl rfl ?_
    refine dt_aloadn dX11_port_45 rfl rfl ?_
    refine dt_getR dX11_port_46 pg_X11_30_11 rfl rfl ?_
    refine dt_xV dX11_port_49 pc_X11_126 dt_p7.1 (s_X6_become dt_p7 dt_p13 (Or.inl (by decide))) rfl rfl ⟨by decide, by decide⟩ rfl rfl (Nat.le_of_ble_eq_true rfl) ⟨by decide, by decide⟩ ?_
    intro v4 sh4 σ4 hq4
    obtain ⟨rfl, hs4, hf4, hX4⟩ := hq4
    obtain rfl := hs4.symm
    refine dt_aloadn dX11_port_52 rfl rfl ?_
    refine dt_getR dX11_port_53 pg_X11_26_11 rfl rfl ?_
    refine dt_xV dX11_port_56 pc_X11_129 dt_p7.1 (s_X6_tongues dt_p7) rfl rfl ⟨by decide, by decide⟩ rfl rfl (Nat.le_of_ble_eq_true rfl) ⟨by decide, by decide⟩ (dt_k3 ?_)
    refine dt_iret dX11_port_59 rfl (by decide) (by decide) ?_
    obtain ⟨ok1, ok2⟩ := pPort_ok he
    have hX7 := hX4 _ (hXq.kept (fun b h1 h2 => by simp (disch := omega) only [dt_up_o]))
    rw [oPort_o he]
    refine ⟨by rw [hX7.t], rfl, hI.read (fun b k h1 h2 h3 => ?_) ?_ ?_ ⟨hX7, ok2, fun z => absurd z ok1⟩, fun b h1 h2 => funext fun k => ?_⟩
    · rw [hf4 b (by omega)]; simp (disch := omega) only [dt_up_ne]; exact hf1 b k (by omega) (by omega)
    · rw [hf4 5 (by omega)]; simp (disch := omega) only [dt_up_ne, dt_up_n, dt_up_k, dt_up_s]
    · rw [hf4 0 (by omega)]; simp (disch := omega) only [dt_up_ne]; rw [hf1 0 9 (by omega) (by omega)]; exact hI.2.2.2.2.2.1
    · rw [hf4 b (by omega)]; simp (disch := omega) only [dt_up_ne]; exact hf1 b k (by omega) (by omega)
  · skip
    obtain ⟨h0b, -⟩ | ⟨e, he, hpe, h1e, h2e, h3e⟩ := hR1.c
    · omega
    refine dt_aloadn dX11_port_31 rfl rfl ?_
    refine dt_iloadn dX11_port_32 rfl rfl ?_
    refine dt_wfV fun hwf => ?_
    refine dt_putI dX11_port_33 pw_X11_59_11 rfl rfl (by first | assumption | exact hwf _ _ | exact dt_b32 _ | omega | exact ⟨by omega, by omega⟩ | decide | exact ⟨by simp (disch := omega) only [dt_up_s, dt_up_k, dt_up_n]; omega, by simp (disch := omega) only [dt_up_s, dt_up_k, dt_up_n]; omega⟩) ?_
    refine dt_ldc dX11_port_36 pk_X11_125 ?_
    refine dt_iloadn dX11_port_38 rfl rfl ?_
    refine dt_isub dX11_port_39 ?_
    refine dt_iret dX11_port_40 rfl (by decide) (by decide) ?_
    rw [oPort_e he, h3e]
    refine ⟨rfl, rfl, hI.read (fun b k h1 h2 h3 => ?_) ?_ ?_ ?_, fun b h1 h2 => funext fun k => ?_⟩
    · simp (disch := omega) only [dt_up_ne]; exact hf1 b k (by omega) (by omega)
    · simp (disch := omega) only [dt_up_ne, dt_up_n, dt_up_k, dt_up_s]
    · rw [dt_up_s, hpe]
    · exact hI.2.2.1.kept (fun b h1 h2 => funext fun k => by simp (disch := omega) only [dt_up_ne]; exact hf1 b k (by omega) (by omega))
    · simp (disch := omega) only [dt_up_ne]; exact hf1 b k (by omega) (by omega)
