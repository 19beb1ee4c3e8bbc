
/-! years -/
def wdOk (wd : Nat × List Nat) : Prop := 1 ≤ wd.1 ∧ wd.1 ≤ 5 ∧ 1 ≤ wd.2.length ∧ wd.2.length ≤ 3 ∧ (wd.1 < 4 → wd.2.length = 1) ∧ ∀ r ∈ wd.2, 1 ≤ r ∧ r < 256
def dX_ok (X : dX) : Prop := X.1.length ≤ 7 ∧ (∀ tg ∈ X.1, tg.length ≤ 8 ∧ ∀ wd ∈ tg, wdOk wd) ∧ X.2.1.length ≤ 8 ∧ ∀ k ∈ X.2.1, k < 2 ^ X.1.length
def xWords (X : dX) : Nat := X.1.foldl (fun a tg => a + tg.length) 0
def xd (x : Int) : Int := x * 16807 % 2147483647
theorem xd_in (x : Int) : 0 ≤ xd x ∧ xd x < 2147483647 := by unfold xd; omega
def xSet (X : dX) (t w q r : Nat) : dX := (X.1.set t ((X.1.getD t []).set w (((X.1.getD t []).getD w (0, [])).1, ((X.1.getD t []).getD w (0, [])).2.set q r)), X.2)
def xYear (X : dX) (x : Int) : dX × Int :=
  if (X.1.getD (xd x % X.1.length).toNat []).length = 0 then (X, xd (xd x)) else
  (if ((X.1.getD (xd x % X.1.length).toNat []).getD (xd (xd x) % ((X.1.getD (xd x % X.1.length).toNat []).length : Nat)).toNat (0, [])).2.getD (xd (xd (xd x)) % (((X.1.getD (xd x % X.1.length).toNat []).getD (xd (xd x) % ((X.1.getD (xd x % X.1.length).toNat []).length : Nat)).toNat (0, [])).2.length : Nat)).toNat 0 ^^^ 2 ^ (xd (xd (xd (xd x))) % 8).toNat = 0 then X
   else xSet X (xd x % X.1.length).toNat (xd (xd x) % ((X.1.getD (xd x % X.1.length).toNat []).length : Nat)).toNat (xd (xd (xd x)) % (((X.1.getD (xd x % X.1.length).toNat []).getD (xd (xd x) % ((X.1.getD (xd x % X.1.length).toNat []).length : Nat)).toNat (0, [])).2.length : Nat)).toNat (((X.1.getD (xd x % X.1.length).toNat []).getD (xd (xd x) % ((X.1.getD (xd x % X.1.length).toNat []).length : Nat)).toNat (0, [])).2.getD (xd (xd (xd x)) % (((X.1.getD (xd x % X.1.length).toNat []).getD (xd (xd x) % ((X.1.getD (xd x % X.1.length).toNat []).length : Nat)).toNat (0, [])).2.length : Nat)).toNat 0 ^^^ 2 ^ (xd (xd (xd (xd x))) % 8).toNat), xd (xd (xd (xd x))))
theorem dt_gd {α : Type} {l : List α} {i : Nat} {x d : α} (h : l[i]? = some x) : l.getD i d = x := by
  show l[i]?.getD d = x
  rw [h]
  rfl
theorem xYear_0 {X : dX} {x : Int} {t : Nat} {tg : List (Nat × List Nat)} (ht : xd x % X.1.length = t) (hg : X.1[t]? = some tg) (h0 : tg.length = 0) : xYear X x = (X, xd (xd x)) := by
  unfold xYear
  simp only [ht, Int.toNat_natCast, dt_gd hg]
  rw [if_pos h0]
theorem xYear_1 {X : dX} {x : Int} {t w q r k : Nat} {tg : List (Nat × List Nat)} {wd : Nat × List Nat} (ht : xd x % X.1.length = t) (hg : X.1[t]? = some tg) (h0 : tg.length ≠ 0) (hw : xd (xd x) % (tg.length : Nat) = w) (hwd : tg[w]? = some wd) (hq : xd (xd (xd x)) % (wd.2.length : Nat) = q) (hr : wd.2[q]? = some r) (hk : xd (xd (xd (xd x))) % 8 = k) :
    xYear X x = (if r ^^^ 2 ^ k = 0 then X else xSet X t w q (r ^^^ 2 ^ k), xd (xd (xd (xd x)))) := by
  unfold xYear
  simp only [ht, Int.toNat_natCast, dt_gd hg, hw, dt_gd hwd, hq, dt_gd hr, hk]
  rw [if_neg h0]
theorem xSet_eq {X : dX} {t w q r : Nat} {tg : List (Nat × List Nat)} {wd : Nat × List Nat} (hg : X.1[t]? = some tg) (hwd : tg[w]? = some wd) : xSet X t w q r = (X.1.set t (tg.set w (wd.1, wd.2.set q r)), X.2) := by
  unfold xSet
  simp only [dt_gd hg, dt_gd hwd]
theorem dt_st {α : Type} {l : List α} {i j : Nat} {x y : α} (h : (l.set i x)[j]? = some y) : (j ≠ i ∧ l[j]? = some y) ∨ (j = i ∧ y = x) := by
  by_cases e : j = i
  · subst e
    have hl : j < l.length := by
      have := dt_gl h
      rwa [List.length_set] at this
    rw [List.getElem?_set_self hl] at h
    exact Or.inr ⟨rfl, (Option.some.inj h).symm⟩
  · rw [List.getElem?_set_ne (Ne.symm e)] at h
    exact Or.inl ⟨e, h⟩
theorem cPort.set {σ : dt_Mem} {p t w q r : Nat} {X : dX} {tg : List (Nat × List Nat)} {wd : Nat × List Nat} (h : cPort σ p X) (hg : X.1[t]? = some tg) (hwd : tg[w]? = some wd) (hq : q < wd.2.length) : cPort (dt_up σ (p + 4) ((t * 8 + w) * 3 + q) r) p (xSet X t w q r) := by
  rw [xSet_eq hg hwd]
  obtain ⟨⟨h1, h2⟩, h3, h4, h5, h6, h7⟩ := h
  obtain ⟨a1, a2, a3⟩ := h6 t tg hg
  obtain ⟨b1, b2, b3, b4⟩ := a3 w wd hwd
  have lt := dt_gl hg
  have lw := dt_gl hwd
  refine ⟨⟨by rw [List.length_set]; exact h1, h2⟩, by rw [List.length_set, dt_up_n (by omega)]; exact h3, by rw [dt_up_n (by omega)]; exact h4, by rw [dt_up_n (by omega)]; exact h5, fun t' tg' ht' => ?_, fun i k hk => by rw [dt_up_n (by omega)]; exact h7 i k hk⟩
  rcases dt_st ht' with ⟨hne, ht'⟩ | ⟨rfl, rfl⟩
  · obtain ⟨c1, c2, c3⟩ := h6 t' tg' ht'
    have lt' := dt_gl ht'
    refine ⟨c1, by rw [dt_up_n (by omega)]; exact c2, fun w' wd' hw' => ?_⟩
    have lw' := dt_gl hw'
    obtain ⟨d1, d2, d3, d4⟩ := c3 w' wd' hw'
    refine ⟨d1, by rw [dt_up_n (by omega)]; exact d2, by rw [dt_up_n (by omega)]; exact d3, fun q' r' hq' => ?_⟩
    have lq' := dt_gl hq'
    rw [dt_up_k (by omega)]
    exact d4 q' r' hq'
  · refine ⟨by rw [List.length_set]; exact a1, by rw [List.length_set, dt_up_n (by omega)]; exact a2, fun w' wd' hw' => ?_⟩
    rcases dt_st hw' with ⟨hnw, hw'⟩ | ⟨rfl, rfl⟩
    · have lw' := dt_gl hw'
      obtain ⟨d1, d2, d3, d4⟩ := a3 w' wd' hw'
      refine ⟨d1, by rw [dt_up_n (by omega)]; exact d2, by rw [dt_up_n (by omega)]; exact d3, fun q' r' hq' => ?_⟩
      have lq' := dt_gl hq'
      rw [dt_up_k (by omega)]
      exact d4 q' r' hq'
    · refine ⟨by rw [List.length_set]; exact b1, by rw [dt_up_n (by omega)]; exact b2, by rw [List.length_set, dt_up_n (by omega)]; exact b3, fun q' r' hq' => ?_⟩
      rcases dt_st hq' with ⟨hnq, hq'⟩ | ⟨rfl, rfl⟩
      · rw [dt_up_k (by omega)]
        exact b4 q' r' hq'
      · rw [dt_up_s]
theorem xSet_ok {X : dX} {t w q r : Nat} {tg : List (Nat × List Nat)} {wd : Nat × List Nat} (h : dX_ok X) (hg : X.1[t]? = some tg) (hwd : tg[w]? = some wd) (hr : 1 ≤ r ∧ r < 256) : dX_ok (xSet X t w q r) := by
  rw [xSet_eq hg hwd]
  obtain ⟨h1, h2, h3, h4⟩ := h
  obtain ⟨a1, a2⟩ := h2 tg (List.mem_of_getElem? hg)
  obtain ⟨b1, b2, b3, b4, b5, b6⟩ := a2 wd (List.mem_of_getElem? hwd)
  refine ⟨by rw [List.length_set]; exact h1, fun tg' ht' => ?_, h3, by rw [List.length_set]; exact h4⟩
  rcases List.mem_or_eq_of_mem_set ht' with g | rfl
  · exact h2 tg' g
  · refine ⟨by rw [List.length_set]; exact a1, fun wd' hw' => ?_⟩
    rcases List.mem_or_eq_of_mem_set hw' with g | rfl
    · exact a2 wd' g
    · refine ⟨b1, b2, by rw [List.length_set]; exact b3, by rw [List.length_set]; exact b4, by rw [List.length_set]; exact b5, fun r' hr' => ?_⟩
      rcases List.mem_or_eq_of_mem_set hr' with g | rfl
      · exact b6 r' g
      · exact hr
/-- the four draws of a year, named -/
theorem xYear_c {X : dX} (h : dX_ok X) (h0 : 0 < X.1.length) (x : Int) : ∃ (t : Nat) (tg : List (Nat × List Nat)), xd x % X.1.length = t ∧ X.1[t]? = some tg ∧ (tg.length ≠ 0 → ∃ (w q r k : Nat) (wd : Nat × List Nat), xd (xd x) % (tg.length : Nat) = w ∧ tg[w]? = some wd ∧ wdOk wd ∧ xd (xd (xd x)) % (wd.2.length : Nat) = q ∧ wd.2[q]? = some r ∧ xd (xd (xd (xd x))) % 8 = k ∧ k < 8 ∧ r ^^^ 2 ^ k < 256) := by
  have m1 := Int.emod_nonneg (xd x) (b := (X.1.length : Int)) (by omega)
  have m2 := Int.emod_lt_of_pos (xd x) (b := (X.1.length : Int)) (by omega)
  obtain ⟨tg, hg⟩ := dt_lg (l := X.1) (i := (xd x % (X.1.length : Int)).toNat) (by omega)
  refine ⟨_, tg, by omega, hg, fun hn => ?_⟩
  have m3 := Int.emod_nonneg (xd (xd x)) (b := (tg.length : Int)) (by omega)
  have m4 := Int.emod_lt_of_pos (xd (xd x)) (b := (tg.length : Int)) (by omega)
  obtain ⟨wd, hwd⟩ := dt_lg (l := tg) (i := (xd (xd x) % (tg.length : Int)).toNat) (by omega)
  have ok := (h.2.1 tg (List.mem_of_getElem? hg)).2 wd (List.mem_of_getElem? hwd)
  have okl := ok.2.2.1
  have m5 := Int.emod_nonneg (xd (xd (xd x))) (b := (wd.2.length : Int)) (by omega)
  have m6 := Int.emod_lt_of_pos (xd (xd (xd x))) (b := (wd.2.length : Int)) (by omega)
  obtain ⟨r, hr⟩ := dt_lg (l := wd.2) (i := (xd (xd (xd x)) % (wd.2.length : Int)).toNat) (by omega)
  have hk : (xd (xd (xd (xd x))) % 8).toNat < 8 := by omega
  refine ⟨_, _, r, (xd (xd (xd (xd x))) % 8).toNat, wd, by omega, hwd, ok, by omega, hr, by omega, hk, ?_⟩
  exact Nat.xor_lt_two_pow (n := 8) (ok.2.2.2.2.2 r (List.mem_of_getElem? hr)).2 (Nat.pow_lt_pow_right (by decide) hk)
theorem xYear_ok {X : dX} (h : dX_ok X) (h0 : 0 < X.1.length) (x : Int) : dX_ok (xYear X x).1 ∧ (xYear X x).1.1.length = X.1.length ∧ (xYear X x).1.2 = X.2 ∧ 0 ≤ (xYear X x).2 ∧ (xYear X x).2 < 2147483647 := by
  obtain ⟨t, tg, ht, hg, hc⟩ := xYear_c h h0 x
  by_cases hn : tg.length = 0
  · rw [xYear_0 ht hg hn]
    exact ⟨h, rfl, rfl, xd_in _⟩
  · obtain ⟨w, q, r, k, wd, e1, e2, e3, e4, e5, e6, e7, e8⟩ := hc hn
    rw [xYear_1 ht hg hn e1 e2 e4 e5 e6]
    refine ⟨?_, ?_, ?_, xd_in _⟩
    · show dX_ok (if r ^^^ 2 ^ k = 0 then X else _)
      split
      · exact h
      · exact xSet_ok h hg e2 ⟨by omega, e8⟩
    · show (if r ^^^ 2 ^ k = 0 then X else _).1.length = _
      split
      · rfl
      · rw [xSet_eq hg e2]; exact List.length_set
    · show (if r ^^^ 2 ^ k = 0 then X else _).2 = _
      split
      · rfl
      · rw [xSet_eq hg e2]
def xYears : Nat → dX → Int → dX
  | 0, X, _ => X
  | n + 1, X, x => xYears n ((xYear X x).1.1, (xYear X x).1.2.1, (xYear X x).1.2.2 + 1) (xYear X x).2
theorem s_X6_wordsOfAll {sh : List dt_Shp} {σ : dt_Mem} {p : Nat} {X : dX} (hp : dt_pSh sh p) (hX : cPort σ p X) : dt_Sp mX6_wordsOfAll 2 0 0 [dt_R p] sh σ (fun v sh2 σ2 => v = some (dt_I ((xWords X : Nat) : Int)) ∧ sh2 = sh ∧ σ2 = σ) := by
  refine dt_Sp_of (by decide) (Nat.le_of_ble_eq_true rfl) ?_
  refine dt_wfV fun hwf => ?_
  have e5 := hX.t
  have e6 := hX.1.1
  show dt_V _ _ _ 0 0 0 [some (dt_R p), none, none] [] _ _
  refine dt_iconst dX6_wordsOfAll_0 ?_
  refine dt_istoren dX6_wordsOfAll_1 rfl (by decide) rfl ?_
  dsimp only [List.set]
  refine dt_iconst dX6_wordsOfAll_2 ?_
  refine dt_istoren dX6_wordsOfAll_3 rfl (by decide) rfl ?_
  dsimp only [List.set]
  have lp4 : ∀ (fu : Nat) (i : Nat), (X.1.length : Int) - i < (fu : Int) → (i ≤ X.1.length) → ((X.1.take i).foldl (fun a tg => a + tg.length) 0 ≤ 8 * i) →  dt_V mX6_wordsOfAll (dt_rm 2 0 0) (dt_MC (fun v sh2 σ2 => v = some (dt_I ((xWords X : Nat) : Int)) ∧ sh2 = sh ∧ σ2 = σ) 0 0) 0 0 4 [some (dt_R p), some (dt_I (((X.1.take i).foldl (fun a tg => a + tg.length) 0 : Nat) : Int)), some (dt_I (i : Int))] [] sh σ := by
    intro fu
    induction fu with
    | zero =>
      intro i hm hi hb
      exfalso
      omega
    | succ fu ih =>
      intro i hm hi hb
      refine dt_wfV fun hwf => ?_
      refine dt_iloadn dX6_wordsOfAll_4 rfl rfl ?_
      refine dt_aloadn dX6_wordsOfAll_5 rfl rfl ?_
      refine dt_getI dX6_wordsOfAll_6 pg_X6_27_6 hp.1 rfl ?_
      refine dt_cm_ge (tgt := 26) dX6_wordsOfAll_9 (by decide) (by first | assumption | exact hwf _ _ | exact dt_b32 _ | omega | exact ⟨by omega, by omega⟩ | decide | exact ⟨by simp (disch := omega) only [dt_up_s, dt_up_k, dt_up_n]; omega, by simp (disch := omega) only [dt_up_s, dt_up_k, dt_up_n]; omega⟩) (by first | assumption | exact hwf _ _ | exact dt_b32 _ | omega | exact ⟨by omega, by omega⟩ | decide | exact ⟨by simp (disch := omega) only [dt_up_s, dt_up_k, dt_up_n]; omega, by simp (disch := omega) only [dt_up_s, dt_up_k, dt_up_n]; omega⟩) (fun c1 => ?_) (fun c1 => ?_)
      · skip
        refine dt_iloadn dX6_wordsOfAll_26 rfl rfl ?_
        refine dt_iret dX6_wordsOfAll_27 rfl (by decide) (by decide) ?_
        exact ⟨by rw [fl_e (by omega)]; rfl, rfl, rfl⟩
      · skip
        obtain ⟨tg, hg⟩ := dt_lg (l := X.1) (i := i) (by omega)
        refine dt_iloadn dX6_wordsOfAll_12 rfl rfl ?_
        refine dt_aloadn dX6_wordsOfAll_13 rfl rfl ?_
        refine dt_iloadn dX6_wordsOfAll_14 rfl rfl ?_
        refine dt_xV dX6_wordsOfAll_15 pc_X6_45 hp.1 (s_X6_wordsOf (by first | assumption | exact hwf _ _ | exact dt_b32 _ | omega | exact ⟨by omega, by omega⟩ | decide | exact ⟨by simp (disch := omega) only [dt_up_s, dt_up_k, dt_up_n]; omega, by simp (disch := omega) only [dt_up_s, dt_up_k, dt_up_n]; omega⟩) ⟨by omega, by omega, by omega⟩) rfl rfl ⟨by decide, by decide⟩ rfl rfl (Nat.le_of_ble_eq_true rfl) ⟨by decide, by decide⟩ (dt_k3 ?_)
        refine dt_iadd dX6_wordsOfAll_18 ?_
        refine dt_istoren dX6_wordsOfAll_19 rfl (by decide) rfl ?_
        dsimp only [List.set]
        refine dt_iinc dX6_wordsOfAll_20 rfl (by decide) rfl ?_
        dsimp only [List.set]
        refine dt_goto (tgt := 4) dX6_wordsOfAll_23 (by decide) ?_
        exact dt_lb (ih (i + 1) (by omega) (by omega) (by rw [fl_s hg]; have := (hX.2.2.2.2.1 i tg hg).1; omega)) ⟨rfl, (by rw [fl_s hg, Int.toNat_natCast, (hX.2.2.2.2.1 i tg hg).2.1]; rfl), rfl, trivial⟩
  exact dt_lb (lp4 9 0 (by omega) (by omega) (by exact Nat.le_refl 0)) ⟨rfl, rfl, rfl, trivial⟩
theorem s_X6_turn {sh : List dt_Shp} {σ : dt_Mem} {p t w q r pt : Nat} {X : dX} {tg : List (Nat × List Nat)} {wd : Nat × List Nat} (hp : dt_pSh sh p) (hX : cPort σ p X) (hg : X.1[t]? = some tg) (hwd : tg[w]? = some wd) (hr : wd.2[q]? = some r) (hp2 : pt < 256) (hr2 : r < 256) : dt_Sp mX6_turn 3 0 0 [dt_R p, dt_I (t : Int), dt_I (w : Int), dt_I (q : Int), dt_I (pt : Int)] sh σ (fun v sh2 σ2 => v = none ∧ sh2 = sh ∧ (∀ b, (b < p ∨ p + 5 < b) → σ2 b = σ b) ∧ cPort σ2 p (if r ^^^ pt = 0 then X else xSet X t w q (r ^^^ pt))) := by
  refine dt_Sp_of (by decide) (Nat.le_of_ble_eq_true rfl) ?_
  refine dt_wfV fun hwf => ?_
  have hcw := hX.hasW ⟨tg, hg, hwd⟩
  obtain ⟨g1, g2, g3, g4, g5, g6, g7, g8⟩ := hX.word ⟨tg, hg, hwd⟩
  have g9 := g8 q r hr
  have g10 := dt_gl hr
  have e13 : ((t : Int) * 8 + (w : Int)).toNat = t * 8 + w := by omega
  have e14 : σ (p + 3) (t * 8 + w) = wd.2.length := g7
  have e15 : (((t : Int) * 8 + (w : Int)) * 3 + (q : Int)).toNat = (t * 8 + w) * 3 + q := by omega
  have hx : r ^^^ pt < 256 := Nat.xor_lt_two_pow (n := 8) hr2 hp2
  show dt_V _ _ _ 0 0 0 [some (dt_R p), some (dt_I (t : Int)), some (dt_I (w : Int)), some (dt_I (q : Int)), some (dt_I (pt : Int)), none] [] _ _
  refine dt_aloadn dX6_turn_0 rfl rfl ?_
  refine dt_iloadn dX6_turn_1 rfl rfl ?_
  refine dt_iloadn dX6_turn_2 rfl rfl ?_
  refine dt_iloadn dX6_turn_3 rfl rfl ?_
  refine dt_xV dX6_turn_4 pc_X6_66 hp.1 (s_X6_reading (by first | assumption | exact hwf _ _ | exact dt_b32 _ | omega | exact ⟨by omega, by omega⟩ | decide | exact ⟨by simp (disch := omega) only [dt_up_s, dt_up_k, dt_up_n]; omega, by simp (disch := omega) only [dt_up_s, dt_up_k, dt_up_n]; omega⟩) ⟨hcw, by omega, by omega, by rw [e13, e14]; omega⟩) rfl rfl ⟨by decide, by decide⟩ rfl rfl (Nat.le_of_ble_eq_true rfl) ⟨by decide, by decide⟩ (dt_k3 ?_)
  rw [e15, g9]
  refine dt_iload dX6_turn_7 rfl ?_
  refine dt_ixor dX6_turn_9 ?_
  rw [dj_xor_nn (by omega) (by omega)]
  refine dt_istore dX6_turn_10 (by decide) rfl ?_
  dsimp only [List.set]
  refine dt_iload dX6_turn_12 rfl ?_
  refine dt_if_eq (tgt := 43) dX6_turn_14 (by decide) (by first | assumption | exact hwf _ _ | exact dt_b32 _ | omega | exact ⟨by omega, by omega⟩ | decide | exact ⟨by simp (disch := omega) only [dt_up_s, dt_up_k, dt_up_n]; omega, by simp (disch := omega) only [dt_up_s, dt_up_k, dt_up_n]; omega⟩) (fun c1 => ?_) (fun c1 => ?_)
  · skip
    have c1 : r ^^^ pt = 0 := by omega
    refine dt_vret dX6_turn_43 rfl (by decide) (by decide) ?_
    first | (refine ⟨rfl, rfl, fun b hb => rfl, ?_⟩; rw [if_pos c1]; exact hX) | (refine ⟨rfl, rfl, fun b hb => by rw [dt_up_o (by omega)], ?_⟩; rw [if_neg (by omega), e15]; exact hX.set hg hwd g10)
  · skip
    refine dt_aloadn dX6_turn_17 rfl rfl ?_
    refine dt_iloadn dX6_turn_18 rfl rfl ?_
    refine dt_iloadn dX6_turn_19 rfl rfl ?_
    refine dt_iloadn dX6_turn_20 rfl rfl ?_
    refine dt_xV dX6_turn_21 pc_X6_59 hp.1 (s_X6_hasReading (by first | assumption | exact hwf _ _ | exact dt_b32 _ | omega | exact ⟨by omega, by omega⟩ | decide | exact ⟨by simp (disch := omega) only [dt_up_s, dt_up_k, dt_up_n]; omega, by simp (disch := omega) only [dt_up_s, dt_up_k, dt_up_n]; omega⟩) hcw (by first | assumption | exact hwf _ _ | exact dt_b32 _ | omega | exact ⟨by omega, by omega⟩ | decide | exact ⟨by simp (disch := omega) only [dt_up_s, dt_up_k, dt_up_n]; omega, by simp (disch := omega) only [dt_up_s, dt_up_k, dt_up_n]; omega⟩)) rfl rfl ⟨by decide, by decide⟩ rfl rfl (Nat.le_of_ble_eq_true rfl) ⟨by decide, by decide⟩ (dt_k3 ?_)
    refine dt_if_eq (tgt := 43) dX6_turn_24 (by decide) (by first | assumption | exact hwf _ _ | exact dt_b32 _ | omega | exact ⟨by omega, by omega⟩ | decide | exact ⟨by simp (disch := omega) only [dt_up_s, dt_up_k, dt_up_n]; omega, by simp (disch := omega) only [dt_up_s, dt_up_k, dt_up_n]; omega⟩) (fun c2 => ?_) (fun c2 => ?_)
    · skip
      try simp only [dt_b0, dt_b1, Decidable.not_not, Classical.not_not] at c2
      exact absurd (show cRd σ p (t : Int) (w : Int) (q : Int) from ⟨hcw, by omega, by omega, by rw [e13, e14]; omega⟩) c2
    · skip
      try simp only [dt_b0, dt_b1, Decidable.not_not, Classical.not_not] at c2
      refine dt_aloadn dX6_turn_27 rfl rfl ?_
      refine dt_getR dX6_turn_28 pg_X6_21_6 hp.1 rfl ?_
      refine dt_iloadn dX6_turn_31 rfl rfl ?_
      refine dt_iloadn dX6_turn_32 rfl rfl ?_
      refine dt_xS dX6_turn_33 pc_X6_56 s_X6_slotOf rfl rfl ⟨by decide, by decide⟩ (Nat.le_of_ble_eq_true rfl) ⟨by decide, by decide⟩ (dt_k3 ?_)
      refine dt_iconst dX6_turn_36 ?_
      refine dt_imul dX6_turn_37 ?_
      refine dt_iloadn dX6_turn_38 rfl rfl ?_
      refine dt_iadd dX6_turn_39 ?_
      refine dt_iload dX6_turn_40 rfl ?_
      refine dt_wfV fun hwf => ?_
      refine dt_iast dX6_turn_42 hp.2.2.2.2.1 (by first | omega | (simp (disch := omega) only [dt_up_s, dt_up_k, dt_up_n]; omega)) (by first | omega | (simp (disch := omega) only [dt_up_s, dt_up_k, dt_up_n]; omega)) (by decide) (by first | assumption | exact hwf _ _ | exact dt_b32 _ | omega | exact ⟨by omega, by omega⟩ | decide | exact ⟨by simp (disch := omega) only [dt_up_s, dt_up_k, dt_up_n]; omega, by simp (disch := omega) only [dt_up_s, dt_up_k, dt_up_n]; omega⟩) ?_
      refine dt_vret dX6_turn_43 rfl (by decide) (by decide) ?_
      first | (refine ⟨rfl, rfl, fun b hb => rfl, ?_⟩; rw [if_pos c1]; exact hX) | (refine ⟨rfl, rfl, fun b hb => by rw [dt_up_o (by omega)], ?_⟩; rw [if_neg (by omega), e15]; exact hX.set hg hwd g10)
theorem s_X6_passYear {sh : List dt_Shp} {σ : dt_Mem} {p : Nat} {X : dX} {x : Int} (hp : dt_pSh sh p) (hX : cPort σ p X) (hok : dX_ok X) (h0 : 0 < X.1.length) (hx1 : 0 ≤ x) (hx2 : x < 2147483648) : dt_Sp mX6_passYear 4 0 0 [dt_R p, dt_I x] sh σ (fun v sh2 σ2 => v = some (dt_I (xYear X x).2) ∧ sh2 = sh ∧ (∀ b, (b < p ∨ p + 5 < b) → σ2 b = σ b) ∧ cPort σ2 p (xYear X x).1) := by
  refine dt_Sp_of (by decide) (Nat.le_of_ble_eq_true rfl) ?_
  refine dt_wfV fun hwf => ?_
  have e5 := hX.t
  have e6 := hX.1.1
  obtain ⟨t, tg, ht, hg, hc⟩ := xYear_c hok h0 x
  have lt := dt_gl hg
  obtain ⟨f1, f2, f3⟩ := hX.2.2.2.2.1 t tg hg
  have y1 := xd_in x
  have y2 := xd_in (xd x)
  have y3 := xd_in (xd (xd x))
  have y4 := xd_in (xd (xd (xd x)))
  show dt_V _ _ _ 0 0 0 [some (dt_R p), some (dt_I x), none, none, none, none, none] [] _ _
  refine dt_iloadn dX6_passYear_0 rfl rfl ?_
  refine dt_xS dX6_passYear_1 pc_X6_79 (s_X6_draw hx1 hx2) rfl rfl ⟨by decide, by decide⟩ (Nat.le_of_ble_eq_true rfl) ⟨by decide, by decide⟩ (dt_k3 ?_)
  rw [show x * 16807 % 2147483647 = xd x from rfl]
  refine dt_istoren dX6_passYear_4 rfl (by decide) rfl ?_
  dsimp only [List.set]
  refine dt_iloadn dX6_passYear_5 rfl rfl ?_
  refine dt_aloadn dX6_passYear_6 rfl rfl ?_
  refine dt_getI dX6_passYear_7 pg_X6_27_6 hp.1 rfl ?_
  refine dt_xS dX6_passYear_10 pc_X6_37 (s_X6_rest y1.1 (by omega) (by omega) (by omega)) rfl rfl ⟨by decide, by decide⟩ (Nat.le_of_ble_eq_true rfl) ⟨by decide, by decide⟩ (dt_k3 ?_)
  rw [e5, ht]
  refine dt_istoren dX6_passYear_13 rfl (by decide) rfl ?_
  dsimp only [List.set]
  refine dt_iloadn dX6_passYear_14 rfl rfl ?_
  refine dt_xS dX6_passYear_15 pc_X6_79 (s_X6_draw y1.1 (by omega)) rfl rfl ⟨by decide, by decide⟩ (Nat.le_of_ble_eq_true rfl) ⟨by decide, by decide⟩ (dt_k3 ?_)
  rw [show xd x * 16807 % 2147483647 = xd (xd x) from rfl]
  refine dt_istoren dX6_passYear_18 rfl (by decide) rfl ?_
  dsimp only [List.set]
  refine dt_aloadn dX6_passYear_19 rfl rfl ?_
  refine dt_iloadn dX6_passYear_20 rfl rfl ?_
  refine dt_xV dX6_passYear_21 pc_X6_45 hp.1 (s_X6_wordsOf (by first | assumption | exact hwf _ _ | exact dt_b32 _ | omega | exact ⟨by omega, by omega⟩ | decide | exact ⟨by simp (disch := omega) only [dt_up_s, dt_up_k, dt_up_n]; omega, by simp (disch := omega) only [dt_up_s, dt_up_k, dt_up_n]; omega⟩) ⟨by omega, by omega, by omega⟩) rfl rfl ⟨by decide, by decide⟩ rfl rfl (Nat.le_of_ble_eq_true rfl) ⟨by decide, by decide⟩ (dt_k3 ?_)
  rw [Int.toNat_natCast, f2]
  refine dt_istore dX6_passYear_24 (by decide) rfl ?_
  dsimp only [List.set]
  refine dt_iload dX6_passYear_26 rfl ?_
  refine dt_if_ne (tgt := 33) dX6_passYear_28 (by decide) (by first | assumption | exact hwf _ _ | exact dt_b32 _ | omega | exact ⟨by omega, by omega⟩ | decide | exact ⟨by simp (disch := omega) only [dt_up_s, dt_up_k, dt_up_n]; omega, by simp (disch := omega) only [dt_up_s, dt_up_k, dt_up_n]; omega⟩) (fun c1 => ?_) (fun c1 => ?_)
  · skip
    have c2 : tg.length ≠ 0 := by omega
    obtain ⟨w, q, r, k, wd, w1, w2, w3, w4, w5, w6, w7, w8⟩ := hc c2
    have lw := dt_gl w2
    obtain ⟨z1, z2, z3, z4⟩ := f3 w wd w2
    have w9 : σ (p + 3) (t * 8 + w) = wd.2.length := z3
    have hcw := hX.hasW ⟨tg, hg, w2⟩
    have z5 := w3.2.2.1
    have e13 : ((t : Int) * 8 + (w : Int)).toNat = t * 8 + w := by omega
    refine dt_iloadn dX6_passYear_33 rfl rfl ?_
    refine dt_iload dX6_passYear_34 rfl ?_
    refine dt_xS dX6_passYear_36 pc_X6_37 (s_X6_rest y2.1 (by omega) (by omega) (by omega)) rfl rfl ⟨by decide, by decide⟩ (Nat.le_of_ble_eq_true rfl) ⟨by decide, by decide⟩ (dt_k3 ?_)
    rw [w1]
    refine dt_istore dX6_passYear_39 (by decide) rfl ?_
    dsimp only [List.set]
    refine dt_iloadn dX6_passYear_41 rfl rfl ?_
    refine dt_xS dX6_passYear_42 pc_X6_79 (s_X6_draw y2.1 (by omega)) rfl rfl ⟨by decide, by decide⟩ (Nat.le_of_ble_eq_true rfl) ⟨by decide, by decide⟩ (dt_k3 ?_)
    rw [show xd (xd x) * 16807 % 2147483647 = xd (xd (xd x)) from rfl]
    refine dt_istoren dX6_passYear_45 rfl (by decide) rfl ?_
    dsimp only [List.set]
    refine dt_iloadn dX6_passYear_46 rfl rfl ?_
    refine dt_aloadn dX6_passYear_47 rfl rfl ?_
    refine dt_iloadn dX6_passYear_48 rfl rfl ?_
    refine dt_iload dX6_passYear_49 rfl ?_
    refine dt_xV dX6_passYear_51 pc_X6_63 hp.1 (s_X6_readingsOf (by first | assumption | exact hwf _ _ | exact dt_b32 _ | omega | exact ⟨by omega, by omega⟩ | decide | exact ⟨by simp (disch := omega) only [dt_up_s, dt_up_k, dt_up_n]; omega, by simp (disch := omega) only [dt_up_s, dt_up_k, dt_up_n]; omega⟩) hcw) rfl rfl ⟨by decide, by decide⟩ rfl rfl (Nat.le_of_ble_eq_true rfl) ⟨by decide, by decide⟩ (dt_k3 ?_)
    rw [e13, w9]
    refine dt_xS dX6_passYear_54 pc_X6_37 (s_X6_rest y3.1 (by omega) (by omega) (by omega)) rfl rfl ⟨by decide, by decide⟩ (Nat.le_of_ble_eq_true rfl) ⟨by decide, by decide⟩ (dt_k3 ?_)
    rw [w4]
    refine dt_istore dX6_passYear_57 (by decide) rfl ?_
    dsimp only [List.set]
    refine dt_iloadn dX6_passYear_59 rfl rfl ?_
    refine dt_xS dX6_passYear_60 pc_X6_79 (s_X6_draw y3.1 (by omega)) rfl rfl ⟨by decide, by decide⟩ (Nat.le_of_ble_eq_true rfl) ⟨by decide, by decide⟩ (dt_k3 ?_)
    rw [show xd (xd (xd x)) * 16807 % 2147483647 = xd (xd (xd (xd x))) from rfl]
    refine dt_istoren dX6_passYear_63 rfl (by decide) rfl ?_
    dsimp only [List.set]
    refine dt_aloadn dX6_passYear_64 rfl rfl ?_
    refine dt_iloadn dX6_passYear_65 rfl rfl ?_
    refine dt_iload dX6_passYear_66 rfl ?_
    refine dt_iload dX6_passYear_68 rfl ?_
    refine dt_iconst dX6_passYear_70 ?_
    refine dt_iloadn dX6_passYear_71 rfl rfl ?_
    refine dt_bipush dX6_passYear_72 (by decide) ?_
    refine dt_xS dX6_passYear_74 pc_X6_37 (s_X6_rest y4.1 (by omega) (by omega) (by omega)) rfl rfl ⟨by decide, by decide⟩ (Nat.le_of_ble_eq_true rfl) ⟨by decide, by decide⟩ (dt_k3 ?_)
    rw [w6]
    refine dt_ishl dX6_passYear_77 ?_
    rw [dj_shl1 (by omega)]
    refine dt_xV dX6_passYear_78 pc_X6_82 hp.1 (s_X6_turn (by first | assumption | exact hwf _ _ | exact dt_b32 _ | omega | exact ⟨by omega, by omega⟩ | decide | exact ⟨by simp (disch := omega) only [dt_up_s, dt_up_k, dt_up_n]; omega, by simp (disch := omega) only [dt_up_s, dt_up_k, dt_up_n]; omega⟩) hX hg w2 w5 (show 2 ^ k < 2 ^ 8 from Nat.pow_lt_pow_right (by decide) w7) (w3.2.2.2.2.2 r (List.mem_of_getElem? w5)).2) rfl rfl ⟨by decide, by decide⟩ rfl rfl (Nat.le_of_ble_eq_true rfl) ⟨by decide, by decide⟩ ?_
    intro v11 sh11 σ11 hq11
    obtain ⟨rfl, hs11, hf11, hX11⟩ := hq11
    obtain rfl := hs11.symm
    refine dt_iloadn dX6_passYear_81 rfl rfl ?_
    refine dt_iret dX6_passYear_82 rfl (by decide) (by decide) ?_
    rw [xYear_1 ht hg c2 w1 w2 w4 w5 w6]
    exact ⟨rfl, rfl, hf11, hX11⟩
  · skip
    refine dt_iloadn dX6_passYear_31 rfl rfl ?_
    refine dt_iret dX6_passYear_32 rfl (by decide) (by decide) ?_
    rw [xYear_0 ht hg (by omega)]
    exact ⟨rfl, rfl, fun b hb => rfl, hX⟩
theorem xYears_ok : ∀ (n : Nat) (X : dX) (x : Int), dX_ok X → 0 < X.1.length → dX_ok (xYears n X x) ∧ (xYears n X x).1.length = X.1.length ∧ (xYears n X x).2.1 = X.2.1 ∧ (xYears n X x).2.2 = X.2.2 + n
  | 0, X, x, h, h0 => ⟨h, rfl, rfl, rfl⟩
  | n + 1, X, x, h, h0 => by
    obtain ⟨a1, a2, a3, a4, a5⟩ := xYear_ok h h0 x
    have h' : dX_ok ((xYear X x).1.1, (xYear X x).1.2.1, (xYear X x).1.2.2 + 1) := a1
    obtain ⟨b1, b2, b3, b4⟩ := xYears_ok n _ (xYear X x).2 h' (by show 0 < (xYear X x).1.1.length; omega)
    refine ⟨b1, b2.trans a2, b3.trans (by show (xYear X x).1.2.1 = _; rw [a3]), b4.trans (by show (xYear X x).1.2.2 + 1 + n = _; rw [a3]; omega)⟩
theorem cPort.year {σ : dt_Mem} {p : Nat} {X : dX} (h : cPort σ p X) : cPort (dt_up σ p 7 ((X.2.2 : Int) + 1)) p (X.1, X.2.1, X.2.2 + 1) := by
  obtain ⟨h1, h3, h4, h5, h6, h7⟩ := h
  refine ⟨h1, by rw [dt_up_k (by decide)]; exact h3, by rw [dt_up_k (by decide)]; exact h4, by rw [dt_up_s]; rfl, fun t tg ht => ?_, fun i k hk => by rw [dt_up_n (by omega)]; exact h7 i k hk⟩
  rw [dt_up_n (by omega), dt_up_o (by omega), dt_up_o (by omega), dt_up_o (by omega)]
  exact h6 t tg ht
theorem s_X6_passYears {sh : List dt_Shp} {σ : dt_Mem} {p N : Nat} {X : dX} {x : Int} (hp : dt_pSh sh p) (hX : cPort σ p X) (hok : dX_ok X) (h0 : 0 < X.1.length) (hx1 : 0 ≤ x) (hx2 : x < 2147483648) (hN : N ≤ 100) (hy : X.2.2 ≤ 1000000) : dt_Sp mX6_passYears 5 0 0 [dt_R p, dt_I (N : Int), dt_I x] sh σ (fun v sh2 σ2 => v = none ∧ sh2 = sh ∧ (∀ b, (b < p ∨ p + 5 < b) → σ2 b = σ b) ∧ cPort σ2 p (xYears N X x)) := by
  refine dt_Sp_of (by decide) (Nat.le_of_ble_eq_true rfl) ?_
  refine dt_wfV fun hwf => ?_
  show dt_V _ _ _ 0 0 0 [some (dt_R p), some (dt_I (N : Int)), some (dt_I x), none, none] [] _ _
  refine dt_iloadn dX6_passYears_0 rfl rfl ?_
  refine dt_istoren dX6_passYears_1 rfl (by decide) rfl ?_
  dsimp only [List.set]
  refine dt_iconst dX6_passYears_2 ?_
  refine dt_istore dX6_passYears_3 (by decide) rfl ?_
  dsimp only [List.set]
  have lp5 : ∀ (fu : Nat) (i : Nat) (X1 : dX) (x1 : Int) (σ1 : dt_Mem), (N : Int) - i < (fu : Int) → (i ≤ N) → (cPort σ1 p X1) → (dX_ok X1) → (X1.1.length = X.1.length) → (0 ≤ x1) → (x1 < 2147483648) → (X1.2.2 ≤ 1000000 + i) → (∀ b, (b < p ∨ p + 5 < b) → σ1 b = σ b) → (xYears (N - i) X1 x1 = xYears N X x) →  dt_V mX6_passYears (dt_rm 5 0 0) (dt_MC (fun v sh2 σ2 => v = none ∧ sh2 = sh ∧ (∀ b, (b < p ∨ p + 5 < b) → σ2 b = σ b) ∧ cPort σ2 p (xYears N X x)) 0 0) 0 0 5 [some (dt_R p), some (dt_I (N : Int)), none, some (dt_I x1), some (dt_I (i : Int))] [] sh σ1 := by
    intro fu
    induction fu with
    | zero =>
      intro i X1 x1 σ1 hm hi kX kok ht g1 g2 hyr hfr hres
      exfalso
      omega
    | succ fu ih =>
      intro i X1 x1 σ1 hm hi kX kok ht g1 g2 hyr hfr hres
      refine dt_wfV fun hwf => ?_
      obtain ⟨a1, a2, a3, a4, a5⟩ := xYear_ok kok (by omega) x1
      refine dt_iload dX6_passYears_5 rfl ?_
      refine dt_iloadn dX6_passYears_7 rfl rfl ?_
      refine dt_cm_ge (tgt := 33) dX6_passYears_8 (by decide) (by first | assumption | exact hwf _ _ | exact dt_b32 _ | omega | exact ⟨by omega, by omega⟩ | decide | exact ⟨by simp (disch := omega) only [dt_up_s, dt_up_k, dt_up_n]; omega, by simp (disch := omega) only [dt_up_s, dt_up_k, dt_up_n]; omega⟩) (by first | assumption | exact hwf _ _ | exact dt_b32 _ | omega | exact ⟨by omega, by omega⟩ | decide | exact ⟨by simp (disch := omega) only [dt_up_s, dt_up_k, dt_up_n]; omega, by simp (disch := omega) only [dt_up_s, dt_up_k, dt_up_n]; omega⟩) (fun c1 => ?_) (fun c1 => ?_)
      · skip
        refine dt_vret dX6_passYears_33 rfl (by decide) (by decide) ?_
        have e : N - i = 0 := by omega
        rw [e] at hres
        exact ⟨rfl, rfl, hfr, by rw [← hres]; exact kX⟩
      · skip
        refine dt_aloadn dX6_passYears_11 rfl rfl ?_
        refine dt_iloadn dX6_passYears_12 rfl rfl ?_
        refine dt_xV dX6_passYears_13 pc_X6_76 hp.1 (s_X6_passYear (by first | assumption | exact hwf _ _ | exact dt_b32 _ | omega | exact ⟨by omega, by omega⟩ | decide | exact ⟨by simp (disch := omega) only [dt_up_s, dt_up_k, dt_up_n]; omega, by simp (disch := omega) only [dt_up_s, dt_up_k, dt_up_n]; omega⟩) kX kok (by omega) g1 g2) rfl rfl ⟨by decide, by decide⟩ rfl rfl (Nat.le_of_ble_eq_true rfl) ⟨by decide, by decide⟩ ?_
        intro v1 sh1 σ1 hq1
        obtain ⟨rfl, hs1, hf1, hX1⟩ := hq1
        obtain rfl := hs1.symm
        have y8 : (xYear X1 x1).1.2.2 ≤ 1000100 := by rw [a3]; omega
        have y7 := hX1.y
        have q1 := hX1.year
        rw [← y7] at q1
        refine dt_istoren dX6_passYears_16 rfl (by decide) rfl ?_
        dsimp only [List.set]
        refine dt_aloadn dX6_passYears_17 rfl rfl ?_
        refine dt_dupR dX6_passYears_18 ?_
        refine dt_getI dX6_passYears_19 pg_X6_34_6 hp.1 rfl ?_
        refine dt_iconst dX6_passYears_22 ?_
        refine dt_iadd dX6_passYears_23 ?_
        refine dt_wfV fun hwf => ?_
        refine dt_putI dX6_passYears_24 pw_X6_34_6 hp.1 rfl (by first | assumption | exact hwf _ _ | exact dt_b32 _ | omega | exact ⟨by omega, by omega⟩ | decide | exact ⟨by simp (disch := omega) only [dt_up_s, dt_up_k, dt_up_n]; omega, by simp (disch := omega) only [dt_up_s, dt_up_k, dt_up_n]; omega⟩) ?_
        refine dt_iinc dX6_passYears_27 rfl (by decide) rfl ?_
        dsimp only [List.set]
        refine dt_goto (tgt := 5) dX6_passYears_30 (by decide) ?_
        exact dt_lb (ih (i + 1) ((xYear X1 x1).1.1, (xYear X1 x1).1.2.1, (xYear X1 x1).1.2.2 + 1) (xYear X1 x1).2 _ (by omega) (by omega) q1 a1 (a2.trans ht) a4 (by omega) (by show (xYear X1 x1).1.2.2 + 1 ≤ _; rw [a3]; omega) (fun b hb => by rw [dt_up_o (by omega), hf1 b hb, hfr b hb]) (by rw [← hres, show N - i = N - (i + 1) + 1 by omega]; rfl)) ⟨rfl, rfl, rfl, rfl, trivial⟩
  exact dt_lb (lp5 101 0 X x σ (by omega) (by omega) hX hok rfl hx1 hx2 (by omega) (fun b hb => rfl) rfl) ⟨rfl, rfl, rfl, rfl, trivial⟩
