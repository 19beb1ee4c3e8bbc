
/-! who understands whom -/
theorem dj_and1 {n : Nat} (h : n < 2147483648) : dj_and (n : Int) 1 = ((n % 2 : Nat) : Int) := by
  have h2 := dj_and_nn (a := n) (b := 1) h
  have h3 : n &&& 1 = n % 2 := by
    have := Nat.and_two_pow_sub_one_eq_mod n 1
    exact this
  rw [h3] at h2
  exact h2
/-- person i passes on -/
def xPa (Ps : List Nat) (h s : Nat) (wo : Int) (i : Nat) : Prop := (i : Int) ≠ wo ∧ s / 2 ^ i % 2 = 1 ∧ Ps.getD i 0 &&& h ≠ 0
noncomputable def xPass (Ps : List Nat) (h s : Nat) (wo : Int) : Nat → Nat
  | 0 => h
  | i + 1 => xPass Ps h s wo i ||| (dt_b (xPa Ps h s wo i)).toNat * Ps.getD i 0
theorem xPass_y {Ps : List Nat} {h s i : Nat} {wo : Int} (g : xPa Ps h s wo i) : xPass Ps h s wo (i + 1) = xPass Ps h s wo i ||| Ps.getD i 0 := by
  show xPass Ps h s wo i ||| (dt_b _).toNat * _ = _
  rw [dt_bT g]
  show _ ||| 1 * _ = _
  rw [Nat.one_mul]
theorem xPass_n {Ps : List Nat} {h s i : Nat} {wo : Int} (g : ¬ xPa Ps h s wo i) : xPass Ps h s wo (i + 1) = xPass Ps h s wo i := by
  show xPass Ps h s wo i ||| (dt_b _).toNat * _ = _
  rw [dt_bF g]
  show _ ||| 0 * _ = _
  rw [Nat.zero_mul, Nat.or_zero]
theorem getD_lt {Ps : List Nat} (hP : ∀ k ∈ Ps, k < 128) (i : Nat) : Ps.getD i 0 < 128 := by
  cases e : Ps[i]? with
  | none => rw [List.getD_eq_getElem?_getD, e]; decide
  | some x => rw [dt_gd e]; exact hP x (List.mem_of_getElem? e)
theorem xPass_lt {Ps : List Nat} {h s : Nat} {wo : Int} (hP : ∀ k ∈ Ps, k < 128) (hh : h < 128) : ∀ n, xPass Ps h s wo n < 128
  | 0 => hh
  | i + 1 => by
    have a := xPass_lt (s := s) (wo := wo) hP hh i
    by_cases g : xPa Ps h s wo i
    · rw [xPass_y g]; exact Nat.or_lt_two_pow (n := 7) a (getD_lt hP i)
    · rw [xPass_n g]; exact a
/-- the tongues in which it is heard after n -/
noncomputable def xHr (Ps : List Nat) (t s : Nat) (wo : Int) : Nat → Nat
  | 0 => 2 ^ t
  | n + 1 => xPass Ps (xHr Ps t s wo n) s wo Ps.length
theorem xHr_lt {Ps : List Nat} {t s : Nat} {wo : Int} (hP : ∀ k ∈ Ps, k < 128) (ht : t < 7) : ∀ n, xHr Ps t s wo n < 128
  | 0 => by
    have : 2 ^ t ≤ 2 ^ 6 := Nat.pow_le_pow_right (by decide) (by omega)
    show 2 ^ t < 128
    have e : (2 : Nat) ^ 6 = 64 := by decide
    omega
  | n + 1 => xPass_lt hP (xHr_lt hP ht n) _
/-- the fewest between, from k on -/
noncomputable def xBt (Ps : List Nat) (t s p : Nat) : Nat → Nat → Int
  | 0, _ => -1000000
  | f + 1, k => if Ps.getD p 0 &&& xHr Ps t s p k ≠ 0 then (k : Int) else xBt Ps t s p f (k + 1)
noncomputable def xBtw (Ps : List Nat) (t s p : Nat) : Int := xBt Ps t s p 9 0
theorem xBt_none {Ps : List Nat} {t s p : Nat} : ∀ f k, xBt Ps t s p f k = -1000000 ↔ ∀ n, k ≤ n → n < k + f → Ps.getD p 0 &&& xHr Ps t s p n = 0
  | 0, k => ⟨fun _ n h1 h2 => absurd h2 (by omega), fun _ => rfl⟩
  | f + 1, k => by
    unfold xBt
    by_cases g : Ps.getD p 0 &&& xHr Ps t s p k ≠ 0
    · rw [if_pos g]
      exact ⟨fun z => by omega, fun z => absurd (z k (Nat.le_refl k) (by omega)) g⟩
    · rw [if_neg g, xBt_none f (k + 1)]
      constructor
      · intro z n h1 h2
        by_cases e : n = k
        · subst e; exact Classical.not_not.mp g
        · exact z n (by omega) (by omega)
      · exact fun z n h1 h2 => z n (by omega) (by omega)
theorem xBt_in {Ps : List Nat} {t s p : Nat} : ∀ f k, k + f ≤ 100 → -1000000 ≤ xBt Ps t s p f k ∧ xBt Ps t s p f k ≤ 100
  | 0, k, _ => ⟨(by decide : (-1000000 : Int) ≤ -1000000), (by decide : (-1000000 : Int) ≤ 100)⟩
  | f + 1, k, h => by
    unfold xBt
    split
    · exact ⟨by omega, by omega⟩
    · exact xBt_in f (k + 1) (by omega)
/-! a set of persons is enough -/
def xSub (a b : Nat) : Prop := a ||| b = b
theorem xSub_r (a : Nat) : xSub a a := Nat.or_self a
theorem xSub_t {a b c : Nat} (h1 : xSub a b) (h2 : xSub b c) : xSub a c := by
  show a ||| c = c
  rw [← h2, ← Nat.or_assoc]
  rw [show a ||| b = b from h1]
theorem xSub_l (a b : Nat) : xSub a (a ||| b) := by
  show a ||| (a ||| b) = a ||| b
  rw [← Nat.or_assoc, Nat.or_self]
theorem xSub_o {a b c : Nat} (h1 : xSub a c) (h2 : xSub b c) : xSub (a ||| b) c := by
  show (a ||| b) ||| c = c
  rw [Nat.or_assoc, show b ||| c = c from h2]
  exact h1
theorem xSub_r2 {a b c : Nat} (h : xSub a b) : xSub a (b ||| c) := xSub_t h (xSub_l b c)
theorem xSub_and {k a b : Nat} (h : xSub a b) (h2 : k &&& a ≠ 0) : k &&& b ≠ 0 := fun z => by
  apply h2
  have e : k &&& b = k &&& a ||| k &&& b := by
    rw [← Nat.and_or_distrib_left, show a ||| b = b from h]
  rw [z, Nat.or_zero] at e
  exact e.symm
theorem xPass_sub (Ps : List Nat) (h s : Nat) (wo : Int) : ∀ n, xSub h (xPass Ps h s wo n)
  | 0 => xSub_r h
  | i + 1 => xSub_r2 (xPass_sub Ps h s wo i)
theorem xPass_mono {Ps : List Nat} {h h2 s : Nat} {wo wo2 : Int} (hh : xSub h h2) (hw : ∀ i : Nat, (i : Int) ≠ wo → (i : Int) ≠ wo2) : ∀ n, xSub (xPass Ps h s wo n) (xPass Ps h2 s wo2 n)
  | 0 => hh
  | i + 1 => by
    have a := xPass_mono (Ps := Ps) (s := s) hh hw i
    by_cases g : xPa Ps h s wo i
    · have g2 : xPa Ps h2 s wo2 i := ⟨hw i g.1, g.2.1, xSub_and hh g.2.2⟩
      rw [xPass_y g, xPass_y g2]
      refine xSub_o (xSub_r2 a) ?_
      rw [Nat.or_comm]
      exact xSub_l _ _
    · rw [xPass_n g]
      exact xSub_r2 a
theorem xHr_sub {Ps : List Nat} {t s : Nat} {wo : Int} (n : Nat) : ∀ d, xSub (xHr Ps t s wo n) (xHr Ps t s wo (n + d))
  | 0 => xSub_r _
  | d + 1 => xSub_t (xHr_sub n d) (xPass_sub Ps _ s wo _)
theorem xHr_mono {Ps : List Nat} {t s p : Nat} : ∀ n, xSub (xHr Ps t s p n) (xHr Ps t s (-1) n)
  | 0 => xSub_r _
  | n + 1 => xPass_mono (xHr_mono n) (fun i _ => by omega) _
theorem xPass_eq {Ps : List Nat} {h s p : Nat} (hz : Ps.getD p 0 &&& h = 0) : ∀ n, xPass Ps h s p n = xPass Ps h s (-1) n
  | 0 => rfl
  | i + 1 => by
    have a := xPass_eq (s := s) hz i
    by_cases e : i = p
    · subst e
      rw [xPass_n (fun g => g.2.2 hz), xPass_n (fun g => g.2.2 hz)]
      exact a
    · by_cases g : xPa Ps h s p i
      · rw [xPass_y g, xPass_y (show xPa Ps h s (-1) i from ⟨by omega, g.2⟩), a]
      · rw [xPass_n g, xPass_n (show ¬ xPa Ps h s (-1) i from fun z => g ⟨by omega, z.2⟩), a]
theorem xHr_eq {Ps : List Nat} {t s p : Nat} : ∀ n, (∀ m, m ≤ n → Ps.getD p 0 &&& xHr Ps t s p m = 0) → xHr Ps t s p (n + 1) = xHr Ps t s (-1) (n + 1) ∧ xHr Ps t s p n = xHr Ps t s (-1) n
  | 0, h => ⟨xPass_eq (h 0 (Nat.le_refl 0)) _, rfl⟩
  | n + 1, h => by
    obtain ⟨a, -⟩ := xHr_eq n (fun m hm => h m (by omega))
    refine ⟨?_, a⟩
    show xPass Ps (xHr Ps t s p (n + 1)) s p Ps.length = xPass Ps (xHr Ps t s (-1) (n + 1)) s (-1) Ps.length
    rw [← a]
    exact xPass_eq (h (n + 1) (Nat.le_refl _)) _
theorem xBtw_e {Ps : List Nat} {t s p : Nat} : xBtw Ps t s p = -1000000 ↔ Ps.getD p 0 &&& xHr Ps t s (-1) 8 = 0 := by
  unfold xBtw
  rw [xBt_none]
  constructor
  · intro h
    have e := (xHr_eq (Ps := Ps) (t := t) (s := s) (p := p) 8 (fun m hm => h m (by omega) (by omega))).2
    rw [← e]
    exact h 8 (by omega) (by omega)
  · intro h n _ hn
    refine Classical.byContradiction fun z => ?_
    have a := xSub_and (xSub_t (xHr_mono n) (xHr_sub (wo := -1) n (8 - n))) z
    rw [show n + (8 - n) = 8 by omega] at a
    exact a h
/-- by this set all understand on all days -/
def xDeal (X : dX) (s : Nat) : Prop := ∀ t, t < X.1.length → ∀ p, p < X.2.1.length → X.2.1.getD p 0 &&& xHr X.2.1 t s (-1) 8 ≠ 0
noncomputable def xWk (X : dX) : Nat → Option Nat
  | 0 => none
  | s + 1 => by
    classical
    exact if (∀ b, xWk X s = some b → dt_pop s < dt_pop b) ∧ xDeal X s then some s else xWk X s
theorem xWk_y {X : dX} {s : Nat} (h : (∀ b, xWk X s = some b → dt_pop s < dt_pop b) ∧ xDeal X s) : xWk X (s + 1) = some s := if_pos h
theorem xWk_n {X : dX} {s : Nat} (h : ¬ ((∀ b, xWk X s = some b → dt_pop s < dt_pop b) ∧ xDeal X s)) : xWk X (s + 1) = xWk X s := if_neg h
theorem xWk_lt {X : dX} : ∀ s b, xWk X s = some b → b < s
  | 0, b, h => by cases h
  | s + 1, b, h => by
    by_cases g : (∀ b, xWk X s = some b → dt_pop s < dt_pop b) ∧ xDeal X s
    · rw [xWk_y g] at h
      obtain rfl := Option.some.inj h
      omega
    · rw [xWk_n g] at h
      have := xWk_lt s b h
      omega
def xOp (o : Option Nat) : Int := match o with
  | none => -1000000
  | some b => (b : Int)
theorem dt_pop_le (n : Nat) : dt_pop n ≤ 8 := by unfold dt_pop; omega
noncomputable def oUnder (A : dS) (day p s : Int) : Int × dS := (if (0 ≤ day ∧ day ≤ 1000000) ∧ (0 ≤ p ∧ p < (sN A).2.1.length) ∧ (0 ≤ s ∧ s ≤ 255) then xBtw (sN A).2.1 (day % ((sN A).1.length : Int)).toNat s.toNat p.toNat else -1000001, A)
noncomputable def oWeek (A : dS) (what : Int) : Int × dS := (if (sN A).1 = [] then -1000002 else if ¬ (0 ≤ what ∧ what ≤ 1) then -1000001 else match xWk (sN A) (2 ^ (sN A).2.1.length) with
  | none => -1000000
  | some b => if what = 1 then (b : Int) else ((dt_pop b : Nat) : Int), A)
theorem dX_ok.ps {X : dX} (h : dX_ok X) : ∀ k ∈ X.2.1, k < 128 := fun k hk => by
  have a := h.2.2.2 k hk
  have b : 2 ^ X.1.length ≤ 2 ^ 7 := Nat.pow_le_pow_right (by decide) h.1
  have c : (2 : Nat) ^ 7 = 128 := by decide
  omega
theorem and_pow {k t : Nat} (hk : k < 128) (ht : t < 7) : k &&& 2 ^ t ≠ 0 ↔ k / 2 ^ t % 2 = 1 := by
  have key : ∀ t, t < 7 → ∀ k, k < 128 → (k &&& 2 ^ t ≠ 0 ↔ k / 2 ^ t % 2 = 1) := by decide +kernel
  exact key t ht k hk
theorem xBt_y {Ps : List Nat} {t s p f k : Nat} (h : Ps.getD p 0 &&& xHr Ps t s p k ≠ 0) : xBt Ps t s p (f + 1) k = k := by
  unfold xBt
  exact if_pos h
theorem xBt_s {Ps : List Nat} {t s p f k : Nat} (h : Ps.getD p 0 &&& xHr Ps t s p k = 0) : xBt Ps t s p (f + 1) k = xBt Ps t s p f (k + 1) := by
  show (if _ then _ else _) = _
  exact if_neg (fun z => z h)
theorem xHr_st {Ps : List Nat} {t s n : Nat} {wo : Int} (h : xHr Ps t s wo (n + 1) = xHr Ps t s wo n) : ∀ d, xHr Ps t s wo (n + d) = xHr Ps t s wo n
  | 0 => rfl
  | d + 1 => by
    show xPass Ps (xHr Ps t s wo (n + d)) s wo Ps.length = _
    rw [xHr_st h d]
    exact h
theorem pow7 {t : Nat} (h : t < 7) : 2 ^ t < 128 := by
  have key : ∀ t, t < 7 → 2 ^ t < 128 := by decide
  exact key t h
theorem pow8 {t : Nat} (h : t ≤ 8) : 2 ^ t ≤ 256 := by
  have : 2 ^ t ≤ 2 ^ 8 := Nat.pow_le_pow_right (by decide) h
  exact this
def xFw (o : Option Nat) : Int := match o with
  | none => 9
  | some b => ((dt_pop b : Nat) : Int)
def xBits (n : Nat) : Nat → Nat
  | 0 => 0
  | k + 1 => xBits n k + n / 2 ^ k % 2
theorem xBits_8 (n : Nat) : xBits n 8 = dt_pop n := by
  have e : xBits n 8 = 0 + n / 2 ^ 0 % 2 + n / 2 ^ 1 % 2 + n / 2 ^ 2 % 2 + n / 2 ^ 3 % 2 + n / 2 ^ 4 % 2 + n / 2 ^ 5 % 2 + n / 2 ^ 6 % 2 + n / 2 ^ 7 % 2 := rfl
  rw [e, show (2 : Nat) ^ 0 = 1 from rfl, show (2 : Nat) ^ 1 = 2 from rfl, show (2 : Nat) ^ 2 = 4 from rfl, show (2 : Nat) ^ 3 = 8 from rfl, show (2 : Nat) ^ 4 = 16 from rfl, show (2 : Nat) ^ 5 = 32 from rfl, show (2 : Nat) ^ 6 = 64 from rfl, show (2 : Nat) ^ 7 = 128 from rfl, Nat.div_one, Nat.zero_add]
  rfl
theorem xBits_le (n : Nat) : ∀ k, xBits n k ≤ k
  | 0 => Nat.le_refl 0
  | k + 1 => by have := xBits_le n k; show xBits n k + _ ≤ _; omega
theorem s_J6_bitCount_0f7a4 {sh : List dt_Shp} {σ : dt_Mem} {n : Nat} (hn : n < 256) : dt_Sp mJ6_bitCount_0f7a4 0 0 0 [dt_I (n : Int)] sh σ (fun v sh2 σ2 => v = some (dt_I ((dt_pop n : Nat) : Int)) ∧ sh2 = sh ∧ σ2 = σ) := by
  refine dt_Sp_of (by decide) (Nat.le_of_ble_eq_true rfl) ?_
  refine dt_wfV fun hwf => ?_
  show dt_V _ _ _ 0 0 0 [some (dt_I (n : Int))] [] _ _
  refine dt_iloadn dJ6_bitCount_0f7a4_0 rfl rfl ?_
  refine dt_iloadn dJ6_bitCount_0f7a4_1 rfl rfl ?_
  refine dt_iconst dJ6_bitCount_0f7a4_2 ?_
  refine dt_iushr dJ6_bitCount_0f7a4_3 ?_
  refine dt_ldcw dJ6_bitCount_0f7a4_4 pk_J6_265 ?_
  refine dt_iand dJ6_bitCount_0f7a4_7 ?_
  refine dt_isub dJ6_bitCount_0f7a4_8 ?_
  refine dt_istoren dJ6_bitCount_0f7a4_9 rfl (by decide) rfl ?_
  dsimp only [List.set]
  refine dt_iloadn dJ6_bitCount_0f7a4_10 rfl rfl ?_
  refine dt_ldcw dJ6_bitCount_0f7a4_11 pk_J6_266 ?_
  refine dt_iand dJ6_bitCount_0f7a4_14 ?_
  refine dt_iloadn dJ6_bitCount_0f7a4_15 rfl rfl ?_
  refine dt_iconst dJ6_bitCount_0f7a4_16 ?_
  refine dt_iushr dJ6_bitCount_0f7a4_17 ?_
  refine dt_ldcw dJ6_bitCount_0f7a4_18 pk_J6_266 ?_
  refine dt_iand dJ6_bitCount_0f7a4_21 ?_
  refine dt_iadd dJ6_bitCount_0f7a4_22 ?_
  refine dt_istoren dJ6_bitCount_0f7a4_23 rfl (by decide) rfl ?_
  dsimp only [List.set]
  refine dt_iloadn dJ6_bitCount_0f7a4_24 rfl rfl ?_
  refine dt_iloadn dJ6_bitCount_0f7a4_25 rfl rfl ?_
  refine dt_iconst dJ6_bitCount_0f7a4_26 ?_
  refine dt_iushr dJ6_bitCount_0f7a4_27 ?_
  refine dt_iadd dJ6_bitCount_0f7a4_28 ?_
  refine dt_ldcw dJ6_bitCount_0f7a4_29 pk_J6_267 ?_
  refine dt_iand dJ6_bitCount_0f7a4_32 ?_
  refine dt_istoren dJ6_bitCount_0f7a4_33 rfl (by decide) rfl ?_
  dsimp only [List.set]
  refine dt_iloadn dJ6_bitCount_0f7a4_34 rfl rfl ?_
  refine dt_iloadn dJ6_bitCount_0f7a4_35 rfl rfl ?_
  refine dt_bipush dJ6_bitCount_0f7a4_36 (by decide) ?_
  refine dt_iushr dJ6_bitCount_0f7a4_38 ?_
  refine dt_iadd dJ6_bitCount_0f7a4_39 ?_
  refine dt_istoren dJ6_bitCount_0f7a4_40 rfl (by decide) rfl ?_
  dsimp only [List.set]
  refine dt_iloadn dJ6_bitCount_0f7a4_41 rfl rfl ?_
  refine dt_iloadn dJ6_bitCount_0f7a4_42 rfl rfl ?_
  refine dt_bipush dJ6_bitCount_0f7a4_43 (by decide) ?_
  refine dt_iushr dJ6_bitCount_0f7a4_45 ?_
  refine dt_iadd dJ6_bitCount_0f7a4_46 ?_
  refine dt_istoren dJ6_bitCount_0f7a4_47 rfl (by decide) rfl ?_
  dsimp only [List.set]
  refine dt_iloadn dJ6_bitCount_0f7a4_48 rfl rfl ?_
  refine dt_bipush dJ6_bitCount_0f7a4_49 (by decide) ?_
  refine dt_iand dJ6_bitCount_0f7a4_51 ?_
  refine dt_iret dJ6_bitCount_0f7a4_52 rfl (by decide) (by decide) ?_
  refine ⟨dt_ie ?_, rfl, rfl⟩
  revert hn
  revert n
  decide +kernel
theorem s_X4_passedOn {ex : List dt_Shp} {σ : dt_Mem} {X : dX} {h s : Nat} {wo : Int} (hX : cPort σ 7 X) (hok : dX_ok X) (hh : h < 128) (hs : s < 256) (hwo : dt_in32 wo) : dt_Sp mX4_passedOn 2 0 0 [dt_R 39, dt_I (h : Int), dt_I (s : Int), dt_I wo] (dt_SH ++ ex) σ (fun v sh2 σ2 => v = some (dt_I ((xPass X.2.1 h s wo X.2.1.length : Nat) : Int)) ∧ sh2 = dt_SH ++ ex ∧ σ2 = σ) := by
  refine dt_Sp_of (by decide) (Nat.le_of_ble_eq_true rfl) ?_
  refine dt_wfV fun hwf => ?_
  have hP := hok.ps
  have e5 := hX.t
  have e6 := hX.p
  have e7 := hX.1
  show dt_V _ _ _ 0 0 0 [some (dt_R 39), some (dt_I (h : Int)), some (dt_I (s : Int)), some (dt_I wo), none, none, none] [] _ _
  refine dt_iloadn dX4_passedOn_0 rfl rfl ?_
  refine dt_istore dX4_passedOn_1 (by decide) rfl ?_
  dsimp only [List.set]
  refine dt_iconst dX4_passedOn_3 ?_
  refine dt_istore dX4_passedOn_4 (by decide) rfl ?_
  dsimp only [List.set]
  have lp6 : ∀ (fu : Nat) (i : Nat), (X.2.1.length : Int) - i < (fu : Int) → (i ≤ X.2.1.length) →  dt_V mX4_passedOn (dt_rm 2 0 0) (dt_MC (fun v sh2 σ2 => v = some (dt_I ((xPass X.2.1 h s wo X.2.1.length : Nat) : Int)) ∧ sh2 = dt_SH ++ ex ∧ σ2 = σ) 0 0) 0 0 6 [some (dt_R 39), some (dt_I (h : Int)), some (dt_I (s : Int)), some (dt_I wo), some (dt_I ((xPass X.2.1 h s wo i : Nat) : Int)), some (dt_I (i : Int)), none] [] (dt_SH ++ ex) σ := by
    intro fu
    induction fu with
    | zero =>
      intro i hm hi
      exfalso
      omega
    | succ fu ih =>
      intro i hm hi
      refine dt_wfV fun hwf => ?_
      have hpl := xPass_lt (s := s) (wo := wo) hP hh i
      refine dt_iload dX4_passedOn_6 rfl ?_
      refine dt_aloadn dX4_passedOn_8 rfl rfl ?_
      refine dt_getR dX4_passedOn_9 pg_X4_9_4 rfl rfl ?_
      refine dt_xV dX4_passedOn_12 pc_X4_26 rfl (s_X6_people dt_p7) rfl rfl ⟨by decide, by decide⟩ rfl rfl (Nat.le_of_ble_eq_true rfl) ⟨by decide, by decide⟩ (dt_k3 ?_)
      refine dt_cm_ge (tgt := 64) dX4_passedOn_15 (by decide) (by first | assumption | exact hwf _ _ | exact dt_b32 _ | omega | exact ⟨by omega, by omega⟩ | decide | exact ⟨by simp (disch := omega) only [dt_up_s, dt_up_k, dt_up_n]; omega, by simp (disch := omega) only [dt_up_s, dt_up_k, dt_up_n]; omega⟩) (by first | assumption | exact hwf _ _ | exact dt_b32 _ | omega | exact ⟨by omega, by omega⟩ | decide | exact ⟨by simp (disch := omega) only [dt_up_s, dt_up_k, dt_up_n]; omega, by simp (disch := omega) only [dt_up_s, dt_up_k, dt_up_n]; omega⟩) (fun c1 => ?_) (fun c1 => ?_)
      · skip
        refine dt_iload dX4_passedOn_64 rfl ?_
        refine dt_iret dX4_passedOn_66 rfl (by decide) (by decide) ?_
        rw [show X.2.1.length = i by omega]
        exact ⟨rfl, rfl, rfl⟩
      · skip
        obtain ⟨p, hp⟩ := dt_lg (l := X.2.1) (i := i) (by omega)
        have hp8 := hP p (List.mem_of_getElem? hp)
        have hpm := hX.2.2.2.2.2 i p hp
        have hpg : X.2.1.getD i 0 = p := dt_gd hp
        have had : p &&& h ≤ p := Nat.and_le_left
        refine dt_aloadn dX4_passedOn_18 rfl rfl ?_
        refine dt_getR dX4_passedOn_19 pg_X4_9_4 rfl rfl ?_
        refine dt_iload dX4_passedOn_22 rfl ?_
        refine dt_xV dX4_passedOn_24 pc_X4_15 rfl (s_X6_knownBy dt_p7 ⟨by omega, by omega, by omega⟩) rfl rfl ⟨by decide, by decide⟩ rfl rfl (Nat.le_of_ble_eq_true rfl) ⟨by decide, by decide⟩ (dt_k3 ?_)
        rw [Int.toNat_natCast, hpm]
        refine dt_istore dX4_passedOn_27 (by decide) rfl ?_
        dsimp only [List.set]
        refine dt_iload dX4_passedOn_29 rfl ?_
        refine dt_iloadn dX4_passedOn_31 rfl rfl ?_
        refine dt_cm_eq (tgt := 58) dX4_passedOn_32 (by decide) (by first | assumption | exact hwf _ _ | exact dt_b32 _ | omega | exact ⟨by omega, by omega⟩ | decide | exact ⟨by simp (disch := omega) only [dt_up_s, dt_up_k, dt_up_n]; omega, by simp (disch := omega) only [dt_up_s, dt_up_k, dt_up_n]; omega⟩) (by first | assumption | exact hwf _ _ | exact dt_b32 _ | omega | exact ⟨by omega, by omega⟩ | decide | exact ⟨by simp (disch := omega) only [dt_up_s, dt_up_k, dt_up_n]; omega, by simp (disch := omega) only [dt_up_s, dt_up_k, dt_up_n]; omega⟩) (fun c2 => ?_) (fun c2 => ?_)
        · skip
          have hno : ¬ xPa X.2.1 h s wo i := fun z => z.1 (by omega)
          refine dt_iinc dX4_passedOn_58 rfl (by decide) rfl ?_
          dsimp only [List.set]
          refine dt_goto (tgt := 6) dX4_passedOn_61 (by decide) ?_
          have hval : ((xPass X.2.1 h s wo i : Nat) : Int) = ((xPass X.2.1 h s wo (i + 1) : Nat) : Int) := by rw [xPass_n hno]
          exact dt_lb (ih (i + 1) (by omega) (by omega)) ⟨rfl, rfl, rfl, rfl, (dt_ie hval), rfl, trivial⟩
        · skip
          have hw : (i : Int) ≠ wo := by omega
          refine dt_iloadn dX4_passedOn_35 rfl rfl ?_
          refine dt_iload dX4_passedOn_36 rfl ?_
          refine dt_ishr dX4_passedOn_38 ?_
          have hdl : s / 2 ^ i ≤ s := Nat.div_le_self _ _
          rw [dj_shr_nn (by omega) (by omega)]
          refine dt_iconst dX4_passedOn_39 ?_
          refine dt_iand dX4_passedOn_40 ?_
          rw [dj_and1 (by omega)]
          refine dt_if_eq (tgt := 58) dX4_passedOn_41 (by decide) (by first | assumption | exact hwf _ _ | exact dt_b32 _ | omega | exact ⟨by omega, by omega⟩ | decide | exact ⟨by simp (disch := omega) only [dt_up_s, dt_up_k, dt_up_n]; omega, by simp (disch := omega) only [dt_up_s, dt_up_k, dt_up_n]; omega⟩) (fun c3 => ?_) (fun c3 => ?_)
          · skip
            have hno : ¬ xPa X.2.1 h s wo i := fun z => by have := z.2.1; omega
            refine dt_iinc dX4_passedOn_58 rfl (by decide) rfl ?_
            dsimp only [List.set]
            refine dt_goto (tgt := 6) dX4_passedOn_61 (by decide) ?_
            have hval : ((xPass X.2.1 h s wo i : Nat) : Int) = ((xPass X.2.1 h s wo (i + 1) : Nat) : Int) := by rw [xPass_n hno]
            exact dt_lb (ih (i + 1) (by omega) (by omega)) ⟨rfl, rfl, rfl, rfl, (dt_ie hval), rfl, trivial⟩
          · skip
            have hb : s / 2 ^ i % 2 = 1 := by omega
            refine dt_iload dX4_passedOn_44 rfl ?_
            refine dt_iloadn dX4_passedOn_46 rfl rfl ?_
            refine dt_iand dX4_passedOn_47 ?_
            rw [dj_and_nn (by omega)]
            refine dt_if_eq (tgt := 58) dX4_passedOn_48 (by decide) (by first | assumption | exact hwf _ _ | exact dt_b32 _ | omega | exact ⟨by omega, by omega⟩ | decide | exact ⟨by simp (disch := omega) only [dt_up_s, dt_up_k, dt_up_n]; omega, by simp (disch := omega) only [dt_up_s, dt_up_k, dt_up_n]; omega⟩) (fun c4 => ?_) (fun c4 => ?_)
            · skip
              have hno : ¬ xPa X.2.1 h s wo i := fun z => z.2.2 (by rw [hpg]; omega)
              refine dt_iinc dX4_passedOn_58 rfl (by decide) rfl ?_
              dsimp only [List.set]
              refine dt_goto (tgt := 6) dX4_passedOn_61 (by decide) ?_
              have hval : ((xPass X.2.1 h s wo i : Nat) : Int) = ((xPass X.2.1 h s wo (i + 1) : Nat) : Int) := by rw [xPass_n hno]
              exact dt_lb (ih (i + 1) (by omega) (by omega)) ⟨rfl, rfl, rfl, rfl, (dt_ie hval), rfl, trivial⟩
            · skip
              have hye : xPa X.2.1 h s wo i := ⟨hw, hb, by rw [hpg]; omega⟩
              refine dt_iload dX4_passedOn_51 rfl ?_
              refine dt_iload dX4_passedOn_53 rfl ?_
              refine dt_ior dX4_passedOn_55 ?_
              rw [dj_or_nn (by omega) (by omega)]
              refine dt_istore dX4_passedOn_56 (by decide) rfl ?_
              dsimp only [List.set]
              refine dt_iinc dX4_passedOn_58 rfl (by decide) rfl ?_
              dsimp only [List.set]
              refine dt_goto (tgt := 6) dX4_passedOn_61 (by decide) ?_
              have hval : ((xPass X.2.1 h s wo i ||| p : Nat) : Int) = ((xPass X.2.1 h s wo (i + 1) : Nat) : Int) := by rw [xPass_y hye, dt_gd hp]
              exact dt_lb (ih (i + 1) (by omega) (by omega)) ⟨rfl, rfl, rfl, rfl, (dt_ie hval), rfl, trivial⟩
  exact dt_lb (lp6 9 0 (by omega) (by omega)) ⟨rfl, rfl, rfl, rfl, rfl, rfl, trivial⟩
theorem s_X4_fewestBetween {ex : List dt_Shp} {σ : dt_Mem} {X : dX} {t s p kn : Nat} (hX : cPort σ 7 X) (hok : dX_ok X) (ht : t < 7) (hs : s < 256) (hp : X.2.1[p]? = some kn) : dt_Sp mX4_fewestBetween 3 0 0 [dt_R 39, dt_I (t : Int), dt_I (p : Int), dt_I (s : Int)] (dt_SH ++ ex) σ (fun v sh2 σ2 => v = some (dt_I (xBtw X.2.1 t s p)) ∧ sh2 = dt_SH ++ ex ∧ σ2 = σ) := by
  refine dt_Sp_of (by decide) (Nat.le_of_ble_eq_true rfl) ?_
  refine dt_wfV fun hwf => ?_
  have hP := hok.ps
  have e5 := hX.t
  have e6 := hX.p
  have e7 := hX.1
  have hkn := hP kn (List.mem_of_getElem? hp)
  have hpm := hX.2.2.2.2.2 p kn hp
  have hpg : X.2.1.getD p 0 = kn := dt_gd hp
  have hpl := dt_gl hp
  have ht7 := pow7 ht
  show dt_V _ _ _ 0 0 0 [some (dt_R 39), some (dt_I (t : Int)), some (dt_I (p : Int)), some (dt_I (s : Int)), none, none] [] _ _
  refine dt_iconst dX4_fewestBetween_0 ?_
  refine dt_iloadn dX4_fewestBetween_1 rfl rfl ?_
  refine dt_ishl dX4_fewestBetween_2 ?_
  rw [dj_shl1 (by omega)]
  refine dt_istore dX4_fewestBetween_3 (by decide) rfl ?_
  dsimp only [List.set]
  refine dt_iconst dX4_fewestBetween_5 ?_
  refine dt_istore dX4_fewestBetween_6 (by decide) rfl ?_
  dsimp only [List.set]
  have lp8 : ∀ (fu : Nat) (n : Nat), 9 - (n : Int) < (fu : Int) → (n ≤ 9) → (xBt X.2.1 t s p (9 - n) n = xBtw X.2.1 t s p) →  dt_V mX4_fewestBetween (dt_rm 3 0 0) (dt_MC (fun v sh2 σ2 => v = some (dt_I (xBtw X.2.1 t s p)) ∧ sh2 = dt_SH ++ ex ∧ σ2 = σ) 0 0) 0 0 8 [some (dt_R 39), some (dt_I (t : Int)), some (dt_I (p : Int)), some (dt_I (s : Int)), some (dt_I ((xHr X.2.1 t s p n : Nat) : Int)), some (dt_I (n : Int))] [] (dt_SH ++ ex) σ := by
    intro fu
    induction fu with
    | zero =>
      intro n hm hn jr
      exfalso
      omega
    | succ fu ih =>
      intro n hm hn jr
      refine dt_wfV fun hwf => ?_
      have hhl := xHr_lt (s := s) (wo := (p : Int)) hP ht n
      have had : kn &&& xHr X.2.1 t s p n ≤ kn := Nat.and_le_left
      refine dt_iload dX4_fewestBetween_8 rfl ?_
      refine dt_bipush dX4_fewestBetween_10 (by decide) ?_
      refine dt_cm_gt (tgt := 48) dX4_fewestBetween_12 (by decide) (by first | assumption | exact hwf _ _ | exact dt_b32 _ | omega | exact ⟨by omega, by omega⟩ | decide | exact ⟨by simp (disch := omega) only [dt_up_s, dt_up_k, dt_up_n]; omega, by simp (disch := omega) only [dt_up_s, dt_up_k, dt_up_n]; omega⟩) (by first | assumption | exact hwf _ _ | exact dt_b32 _ | omega | exact ⟨by omega, by omega⟩ | decide | exact ⟨by simp (disch := omega) only [dt_up_s, dt_up_k, dt_up_n]; omega, by simp (disch := omega) only [dt_up_s, dt_up_k, dt_up_n]; omega⟩) (fun c1 => ?_) (fun c1 => ?_)
      · skip
        refine dt_ldc dX4_fewestBetween_48 pk_X4_25 ?_
        refine dt_iret dX4_fewestBetween_50 rfl (by decide) (by decide) ?_
        rw [← jr, show 9 - n = 0 by omega]
        exact ⟨rfl, rfl, rfl⟩
      · skip
        obtain ⟨z, hz⟩ : ∃ z, 9 - n = z + 1 := ⟨9 - n - 1, by omega⟩
        refine dt_aloadn dX4_fewestBetween_15 rfl rfl ?_
        refine dt_getR dX4_fewestBetween_16 pg_X4_9_4 rfl rfl ?_
        refine dt_iloadn dX4_fewestBetween_19 rfl rfl ?_
        refine dt_xV dX4_fewestBetween_20 pc_X4_15 rfl (s_X6_knownBy dt_p7 ⟨by omega, by omega, by omega⟩) rfl rfl ⟨by decide, by decide⟩ rfl rfl (Nat.le_of_ble_eq_true rfl) ⟨by decide, by decide⟩ (dt_k3 ?_)
        rw [Int.toNat_natCast, hpm]
        refine dt_iload dX4_fewestBetween_23 rfl ?_
        refine dt_iand dX4_fewestBetween_25 ?_
        rw [dj_and_nn (by omega)]
        refine dt_if_eq (tgt := 32) dX4_fewestBetween_26 (by decide) (by first | assumption | exact hwf _ _ | exact dt_b32 _ | omega | exact ⟨by omega, by omega⟩ | decide | exact ⟨by simp (disch := omega) only [dt_up_s, dt_up_k, dt_up_n]; omega, by simp (disch := omega) only [dt_up_s, dt_up_k, dt_up_n]; omega⟩) (fun c2 => ?_) (fun c2 => ?_)
        · skip
          have hz0 : X.2.1.getD p 0 &&& xHr X.2.1 t s p n = 0 := by rw [hpg]; omega
          refine dt_aloadn dX4_fewestBetween_32 rfl rfl ?_
          refine dt_iload dX4_fewestBetween_33 rfl ?_
          refine dt_iloadn dX4_fewestBetween_35 rfl rfl ?_
          refine dt_iloadn dX4_fewestBetween_36 rfl rfl ?_
          refine dt_xV dX4_fewestBetween_37 pc_X4_21 rfl (s_X4_passedOn hX hok hhl hs ⟨by omega, by omega⟩) rfl rfl ⟨by decide, by decide⟩ rfl rfl (Nat.le_of_ble_eq_true rfl) ⟨by decide, by decide⟩ (dt_k3 ?_)
          refine dt_istore dX4_fewestBetween_40 (by decide) rfl ?_
          dsimp only [List.set]
          refine dt_iinc dX4_fewestBetween_42 rfl (by decide) rfl ?_
          dsimp only [List.set]
          refine dt_goto (tgt := 8) dX4_fewestBetween_45 (by decide) ?_
          have jr2 := (xBt_s (f := z) hz0).symm.trans (hz ▸ jr)
          exact dt_lb (ih (n + 1) (by omega) (by omega) (by rw [show 9 - (n + 1) = z by omega]; exact jr2)) ⟨rfl, rfl, rfl, rfl, (dt_ie rfl), rfl, trivial⟩
        · skip
          have hz1 : X.2.1.getD p 0 &&& xHr X.2.1 t s p n ≠ 0 := by rw [hpg]; omega
          refine dt_iload dX4_fewestBetween_29 rfl ?_
          refine dt_iret dX4_fewestBetween_31 rfl (by decide) (by decide) ?_
          rw [← jr, hz, xBt_y hz1]
          exact ⟨rfl, rfl, rfl⟩
  exact dt_lb (lp8 10 0 (by omega) (by omega) rfl) ⟨rfl, rfl, rfl, rfl, (dt_ie rfl), rfl, trivial⟩
theorem s_X4_heardInTheEnd {ex : List dt_Shp} {σ : dt_Mem} {X : dX} {t s : Nat} (hX : cPort σ 7 X) (hok : dX_ok X) (ht : t < 7) (hs : s < 256) : dt_Sp mX4_heardInTheEnd 3 0 0 [dt_R 39, dt_I (t : Int), dt_I (s : Int)] (dt_SH ++ ex) σ (fun v sh2 σ2 => v = some (dt_I ((xHr X.2.1 t s (-1) 8 : Nat) : Int)) ∧ sh2 = dt_SH ++ ex ∧ σ2 = σ) := by
  refine dt_Sp_of (by decide) (Nat.le_of_ble_eq_true rfl) ?_
  refine dt_wfV fun hwf => ?_
  have hP := hok.ps
  have e5 := hX.t
  have e6 := hX.p
  have e7 := hX.1
  have ht7 := pow7 ht
  have ht1 : 1 ≤ 2 ^ t := Nat.one_le_two_pow
  show dt_V _ _ _ 0 0 0 [some (dt_R 39), some (dt_I (t : Int)), some (dt_I (s : Int)), none, none, none] [] _ _
  refine dt_iconst dX4_heardInTheEnd_0 ?_
  refine dt_istoren dX4_heardInTheEnd_1 rfl (by decide) rfl ?_
  dsimp only [List.set]
  refine dt_iconst dX4_heardInTheEnd_2 ?_
  refine dt_iloadn dX4_heardInTheEnd_3 rfl rfl ?_
  refine dt_ishl dX4_heardInTheEnd_4 ?_
  rw [dj_shl1 (by omega)]
  refine dt_istore dX4_heardInTheEnd_5 (by decide) rfl ?_
  dsimp only [List.set]
  refine dt_iconst dX4_heardInTheEnd_7 ?_
  refine dt_istore dX4_heardInTheEnd_8 (by decide) rfl ?_
  dsimp only [List.set]
  have lp10 : ∀ (fu : Nat) (n bf : Nat), 8 - (n : Int) < (fu : Int) → (n ≤ 8) → (bf < 128) → ((n = 0 ∧ bf = 0) ∨ ∃ z, n = z + 1 ∧ bf = xHr X.2.1 t s (-1) z) →  dt_V mX4_heardInTheEnd (dt_rm 3 0 0) (dt_MC (fun v sh2 σ2 => v = some (dt_I ((xHr X.2.1 t s (-1) 8 : Nat) : Int)) ∧ sh2 = dt_SH ++ ex ∧ σ2 = σ) 0 0) 0 0 10 [some (dt_R 39), some (dt_I (t : Int)), some (dt_I (s : Int)), some (dt_I (bf : Int)), some (dt_I ((xHr X.2.1 t s (-1) n : Nat) : Int)), some (dt_I (n : Int))] [] (dt_SH ++ ex) σ := by
    intro fu
    induction fu with
    | zero =>
      intro n bf hm hn hb hbf
      exfalso
      omega
    | succ fu ih =>
      intro n bf hm hn hb hbf
      refine dt_wfV fun hwf => ?_
      have hhl := xHr_lt (s := s) (wo := -1) hP ht n
      refine dt_iload dX4_heardInTheEnd_10 rfl ?_
      refine dt_bipush dX4_heardInTheEnd_12 (by decide) ?_
      refine dt_cm_ge (tgt := 42) dX4_heardInTheEnd_14 (by decide) (by first | assumption | exact hwf _ _ | exact dt_b32 _ | omega | exact ⟨by omega, by omega⟩ | decide | exact ⟨by simp (disch := omega) only [dt_up_s, dt_up_k, dt_up_n]; omega, by simp (disch := omega) only [dt_up_s, dt_up_k, dt_up_n]; omega⟩) (by first | assumption | exact hwf _ _ | exact dt_b32 _ | omega | exact ⟨by omega, by omega⟩ | decide | exact ⟨by simp (disch := omega) only [dt_up_s, dt_up_k, dt_up_n]; omega, by simp (disch := omega) only [dt_up_s, dt_up_k, dt_up_n]; omega⟩) (fun c1 => ?_) (fun c1 => ?_)
      · skip
        have hfin : xHr X.2.1 t s (-1) 8 = xHr X.2.1 t s (-1) n := by rw [show n = 8 by omega]
        refine dt_iload dX4_heardInTheEnd_42 rfl ?_
        refine dt_iret dX4_heardInTheEnd_44 rfl (by decide) (by decide) ?_
        rw [hfin]
        exact ⟨rfl, rfl, rfl⟩
      · skip
        refine dt_iload dX4_heardInTheEnd_17 rfl ?_
        refine dt_iloadn dX4_heardInTheEnd_19 rfl rfl ?_
        refine dt_cm_eq (tgt := 42) dX4_heardInTheEnd_20 (by decide) (by first | assumption | exact hwf _ _ | exact dt_b32 _ | omega | exact ⟨by omega, by omega⟩ | decide | exact ⟨by simp (disch := omega) only [dt_up_s, dt_up_k, dt_up_n]; omega, by simp (disch := omega) only [dt_up_s, dt_up_k, dt_up_n]; omega⟩) (by first | assumption | exact hwf _ _ | exact dt_b32 _ | omega | exact ⟨by omega, by omega⟩ | decide | exact ⟨by simp (disch := omega) only [dt_up_s, dt_up_k, dt_up_n]; omega, by simp (disch := omega) only [dt_up_s, dt_up_k, dt_up_n]; omega⟩) (fun c2 => ?_) (fun c2 => ?_)
        · skip
          have hfin : xHr X.2.1 t s (-1) 8 = xHr X.2.1 t s (-1) n := by
            rcases hbf with ⟨z1, z2⟩ | ⟨z, z1, z2⟩
            · exfalso
              subst z1
              have e : xHr X.2.1 t s (-1) 0 = 2 ^ t := rfl
              omega
            · subst z1
              have e : xHr X.2.1 t s (-1) (z + 1) = xHr X.2.1 t s (-1) z := by omega
              rw [show 8 = z + (8 - z) by omega, xHr_st e, e]
          refine dt_iload dX4_heardInTheEnd_42 rfl ?_
          refine dt_iret dX4_heardInTheEnd_44 rfl (by decide) (by decide) ?_
          rw [hfin]
          exact ⟨rfl, rfl, rfl⟩
        · skip
          refine dt_iload dX4_heardInTheEnd_23 rfl ?_
          refine dt_istoren dX4_heardInTheEnd_25 rfl (by decide) rfl ?_
          dsimp only [List.set]
          refine dt_aloadn dX4_heardInTheEnd_26 rfl rfl ?_
          refine dt_iload dX4_heardInTheEnd_27 rfl ?_
          refine dt_iloadn dX4_heardInTheEnd_29 rfl rfl ?_
          refine dt_iconst dX4_heardInTheEnd_30 ?_
          refine dt_xV dX4_heardInTheEnd_31 pc_X4_21 rfl (s_X4_passedOn hX hok hhl hs (by decide)) rfl rfl ⟨by decide, by decide⟩ rfl rfl (Nat.le_of_ble_eq_true rfl) ⟨by decide, by decide⟩ (dt_k3 ?_)
          refine dt_istore dX4_heardInTheEnd_34 (by decide) rfl ?_
          dsimp only [List.set]
          refine dt_iinc dX4_heardInTheEnd_36 rfl (by decide) rfl ?_
          dsimp only [List.set]
          refine dt_goto (tgt := 10) dX4_heardInTheEnd_39 (by decide) ?_
          exact dt_lb (ih (n + 1) (xHr X.2.1 t s (-1) n) (by omega) (by omega) hhl (Or.inr ⟨n, rfl, rfl⟩)) ⟨rfl, rfl, rfl, rfl, (dt_ie rfl), rfl, trivial⟩
  exact dt_lb (lp10 10 0 0 (by omega) (by omega) (by omega) (Or.inl ⟨rfl, rfl⟩)) ⟨rfl, rfl, rfl, (dt_ie rfl), (dt_ie rfl), rfl, trivial⟩
theorem s_X4_isWeekDealt {ex : List dt_Shp} {σ : dt_Mem} {X : dX} {s : Nat} (hX : cPort σ 7 X) (hok : dX_ok X) (hs : s < 256) : dt_Sp mX4_isWeekDealt 4 0 0 [dt_R 39, dt_I (s : Int)] (dt_SH ++ ex) σ (fun v sh2 σ2 => v = some (dt_I (dt_b (xDeal X s))) ∧ sh2 = dt_SH ++ ex ∧ σ2 = σ) := by
  refine dt_Sp_of (by decide) (Nat.le_of_ble_eq_true rfl) ?_
  refine dt_wfV fun hwf => ?_
  have hP := hok.ps
  have e5 := hX.t
  have e6 := hX.p
  have e7 := hX.1
  show dt_V _ _ _ 0 0 0 [some (dt_R 39), some (dt_I (s : Int)), none, none, none] [] _ _
  refine dt_iconst dX4_isWeekDealt_0 ?_
  refine dt_istoren dX4_isWeekDealt_1 rfl (by decide) rfl ?_
  dsimp only [List.set]
  have lp2 : ∀ (fu : Nat) (t : Nat), (X.1.length : Int) - t < (fu : Int) → (t ≤ X.1.length) → (∀ u, u < t → ∀ q, q < X.2.1.length → X.2.1.getD q 0 &&& xHr X.2.1 u s (-1) 8 ≠ 0) →  dt_V mX4_isWeekDealt (dt_rm 4 0 0) (dt_MC (fun v sh2 σ2 => v = some (dt_I (dt_b (xDeal X s))) ∧ sh2 = dt_SH ++ ex ∧ σ2 = σ) 0 0) 0 0 2 [some (dt_R 39), some (dt_I (s : Int)), some (dt_I (t : Int)), none, none] [] (dt_SH ++ ex) σ := by
    intro fu
    induction fu with
    | zero =>
      intro t hm hl hd
      exfalso
      omega
    | succ fu ih =>
      intro t hm hl hd
      refine dt_wfV fun hwf => ?_
      have ih0 := ih
      refine dt_iloadn dX4_isWeekDealt_2 rfl rfl ?_
      refine dt_aloadn dX4_isWeekDealt_3 rfl rfl ?_
      refine dt_getR dX4_isWeekDealt_4 pg_X4_9_4 rfl rfl ?_
      refine dt_xV dX4_isWeekDealt_7 pc_X4_39 rfl (s_X6_tongues dt_p7) rfl rfl ⟨by decide, by decide⟩ rfl rfl (Nat.le_of_ble_eq_true rfl) ⟨by decide, by decide⟩ (dt_k3 ?_)
      refine dt_cm_ge (tgt := 63) dX4_isWeekDealt_10 (by decide) (by first | assumption | exact hwf _ _ | exact dt_b32 _ | omega | exact ⟨by omega, by omega⟩ | decide | exact ⟨by simp (disch := omega) only [dt_up_s, dt_up_k, dt_up_n]; omega, by simp (disch := omega) only [dt_up_s, dt_up_k, dt_up_n]; omega⟩) (by first | assumption | exact hwf _ _ | exact dt_b32 _ | omega | exact ⟨by omega, by omega⟩ | decide | exact ⟨by simp (disch := omega) only [dt_up_s, dt_up_k, dt_up_n]; omega, by simp (disch := omega) only [dt_up_s, dt_up_k, dt_up_n]; omega⟩) (fun c1 => ?_) (fun c1 => ?_)
      · skip
        have hdl : xDeal X s := fun u hu q hq => hd u (by omega) q hq
        refine dt_iconst dX4_isWeekDealt_63 ?_
        refine dt_zret dX4_isWeekDealt_64 rfl (by decide) (by decide) (by first | exact Or.inl rfl | exact Or.inr rfl | assumption | omega) ?_
        exact ⟨by rw [dt_bT hdl], rfl, rfl⟩
      · skip
        have ht7 : t < 7 := by omega
        have hhl := xHr_lt (s := s) (wo := -1) hP ht7 8
        refine dt_aloadn dX4_isWeekDealt_13 rfl rfl ?_
        refine dt_iloadn dX4_isWeekDealt_14 rfl rfl ?_
        refine dt_iloadn dX4_isWeekDealt_15 rfl rfl ?_
        refine dt_xV dX4_isWeekDealt_16 pc_X4_42 rfl (s_X4_heardInTheEnd hX hok ht7 hs) rfl rfl ⟨by decide, by decide⟩ rfl rfl (Nat.le_of_ble_eq_true rfl) ⟨by decide, by decide⟩ (dt_k3 ?_)
        refine dt_istoren dX4_isWeekDealt_19 rfl (by decide) rfl ?_
        dsimp only [List.set]
        refine dt_iconst dX4_isWeekDealt_20 ?_
        refine dt_istore dX4_isWeekDealt_21 (by decide) rfl ?_
        dsimp only [List.set]
        have lp23 : ∀ (fu : Nat) (p : Nat), (X.2.1.length : Int) - p < (fu : Int) → (p ≤ X.2.1.length) → (∀ q, q < p → X.2.1.getD q 0 &&& xHr X.2.1 t s (-1) 8 ≠ 0) →  dt_V mX4_isWeekDealt (dt_rm 4 0 0) (dt_MC (fun v sh2 σ2 => v = some (dt_I (dt_b (xDeal X s))) ∧ sh2 = dt_SH ++ ex ∧ σ2 = σ) 0 0) 0 0 23 [some (dt_R 39), some (dt_I (s : Int)), some (dt_I (t : Int)), some (dt_I ((xHr X.2.1 t s (-1) 8 : Nat) : Int)), some (dt_I (p : Int))] [] (dt_SH ++ ex) σ := by
          intro fu
          induction fu with
          | zero =>
            intro p hm hpl hq2
            exfalso
            omega
          | succ fu ih =>
            intro p hm hpl hq2
            refine dt_wfV fun hwf => ?_
            refine dt_iload dX4_isWeekDealt_23 rfl ?_
            refine dt_aloadn dX4_isWeekDealt_25 rfl rfl ?_
            refine dt_getR dX4_isWeekDealt_26 pg_X4_9_4 rfl rfl ?_
            refine dt_xV dX4_isWeekDealt_29 pc_X4_26 rfl (s_X6_people dt_p7) rfl rfl ⟨by decide, by decide⟩ rfl rfl (Nat.le_of_ble_eq_true rfl) ⟨by decide, by decide⟩ (dt_k3 ?_)
            refine dt_cm_ge (tgt := 57) dX4_isWeekDealt_32 (by decide) (by first | assumption | exact hwf _ _ | exact dt_b32 _ | omega | exact ⟨by omega, by omega⟩ | decide | exact ⟨by simp (disch := omega) only [dt_up_s, dt_up_k, dt_up_n]; omega, by simp (disch := omega) only [dt_up_s, dt_up_k, dt_up_n]; omega⟩) (by first | assumption | exact hwf _ _ | exact dt_b32 _ | omega | exact ⟨by omega, by omega⟩ | decide | exact ⟨by simp (disch := omega) only [dt_up_s, dt_up_k, dt_up_n]; omega, by simp (disch := omega) only [dt_up_s, dt_up_k, dt_up_n]; omega⟩) (fun c2 => ?_) (fun c2 => ?_)
            · skip
              refine dt_iinc dX4_isWeekDealt_57 rfl (by decide) rfl ?_
              dsimp only [List.set]
              refine dt_goto (tgt := 2) dX4_isWeekDealt_60 (by decide) ?_
              have hd2 : ∀ u, u < t + 1 → ∀ q, q < X.2.1.length → X.2.1.getD q 0 &&& xHr X.2.1 u s (-1) 8 ≠ 0 := fun u hu q hq => by
                by_cases e : u = t
                · subst e; exact hq2 q (by omega)
                · exact hd u (by omega) q hq
              exact dt_lb (ih0 (t + 1) (by omega) (by omega) hd2) ⟨rfl, rfl, rfl, trivial⟩
            · skip
              obtain ⟨kn, hp⟩ := dt_lg (l := X.2.1) (i := p) (by omega)
              have hkn := hP kn (List.mem_of_getElem? hp)
              have hpm := hX.2.2.2.2.2 p kn hp
              have hpg : X.2.1.getD p 0 = kn := dt_gd hp
              have had : kn &&& xHr X.2.1 t s (-1) 8 ≤ kn := Nat.and_le_left
              refine dt_aloadn dX4_isWeekDealt_35 rfl rfl ?_
              refine dt_getR dX4_isWeekDealt_36 pg_X4_9_4 rfl rfl ?_
              refine dt_iload dX4_isWeekDealt_39 rfl ?_
              refine dt_xV dX4_isWeekDealt_41 pc_X4_15 rfl (s_X6_knownBy dt_p7 ⟨by omega, by omega, by omega⟩) rfl rfl ⟨by decide, by decide⟩ rfl rfl (Nat.le_of_ble_eq_true rfl) ⟨by decide, by decide⟩ (dt_k3 ?_)
              rw [Int.toNat_natCast, hpm]
              refine dt_iloadn dX4_isWeekDealt_44 rfl rfl ?_
              refine dt_iand dX4_isWeekDealt_45 ?_
              rw [dj_and_nn (by omega)]
              refine dt_if_ne (tgt := 51) dX4_isWeekDealt_46 (by decide) (by first | assumption | exact hwf _ _ | exact dt_b32 _ | omega | exact ⟨by omega, by omega⟩ | decide | exact ⟨by simp (disch := omega) only [dt_up_s, dt_up_k, dt_up_n]; omega, by simp (disch := omega) only [dt_up_s, dt_up_k, dt_up_n]; omega⟩) (fun c3 => ?_) (fun c3 => ?_)
              · skip
                refine dt_iinc dX4_isWeekDealt_51 rfl (by decide) rfl ?_
                dsimp only [List.set]
                refine dt_goto (tgt := 23) dX4_isWeekDealt_54 (by decide) ?_
                have hq3 : ∀ q, q < p + 1 → X.2.1.getD q 0 &&& xHr X.2.1 t s (-1) 8 ≠ 0 := fun q hq => by
                  by_cases e : q = p
                  · subst e; rw [hpg]; omega
                  · exact hq2 q (by omega)
                exact dt_lb (ih (p + 1) (by omega) (by omega) hq3) ⟨rfl, rfl, rfl, rfl, rfl, trivial⟩
              · skip
                have hno : ¬ xDeal X s := fun z => z t (by omega) p (by omega) (by rw [hpg]; omega)
                refine dt_iconst dX4_isWeekDealt_49 ?_
                refine dt_zret dX4_isWeekDealt_50 rfl (by decide) (by decide) (by first | exact Or.inl rfl | exact Or.inr rfl | assumption | omega) ?_
                exact ⟨by rw [dt_bF hno], rfl, rfl⟩
        exact dt_lb (lp23 9 0 (by omega) (by omega) (fun q hq => absurd hq (Nat.not_lt_zero q))) ⟨rfl, rfl, rfl, rfl, rfl, trivial⟩
  exact dt_lb (lp2 9 0 (by omega) (by omega) (fun u hu => absurd hu (Nat.not_lt_zero u))) ⟨rfl, rfl, rfl, trivial⟩
theorem s_X4_fewestForAll {ex : List dt_Shp} {σ : dt_Mem} {X : dX} (hX : cPort σ 7 X) (hok : dX_ok X) : dt_Sp mX4_fewestForAll 5 0 0 [dt_R 39] (dt_SH ++ ex) σ (fun v sh2 σ2 => v = some (dt_I (xOp (xWk X (2 ^ X.2.1.length)))) ∧ sh2 = dt_SH ++ ex ∧ σ2 = σ) := by
  refine dt_Sp_of (by decide) (Nat.le_of_ble_eq_true rfl) ?_
  refine dt_wfV fun hwf => ?_
  have hP := hok.ps
  have e5 := hX.t
  have e6 := hX.p
  have e7 := hX.1
  have hp8 := pow8 hok.2.2.1
  obtain ⟨P2, hP2⟩ : ∃ z, z = 2 ^ X.2.1.length := ⟨_, rfl⟩
  rw [← hP2] at hp8
  show dt_V _ _ _ 0 0 0 [some (dt_R 39), none, none, none] [] _ _
  refine dt_ldc dX4_fewestForAll_0 pk_X4_25 ?_
  refine dt_istoren dX4_fewestForAll_2 rfl (by decide) rfl ?_
  dsimp only [List.set]
  refine dt_bipush dX4_fewestForAll_3 (by decide) ?_
  refine dt_istoren dX4_fewestForAll_5 rfl (by decide) rfl ?_
  dsimp only [List.set]
  refine dt_iconst dX4_fewestForAll_6 ?_
  refine dt_istoren dX4_fewestForAll_7 rfl (by decide) rfl ?_
  dsimp only [List.set]
  have lp8 : ∀ (fu : Nat) (s : Nat), (P2 : Int) - s < (fu : Int) → (s ≤ P2) →  dt_V mX4_fewestForAll (dt_rm 5 0 0) (dt_MC (fun v sh2 σ2 => v = some (dt_I (xOp (xWk X (2 ^ X.2.1.length)))) ∧ sh2 = dt_SH ++ ex ∧ σ2 = σ) 0 0) 0 0 8 [some (dt_R 39), some (dt_I (xOp (xWk X s))), some (dt_I (xFw (xWk X s))), some (dt_I (s : Int))] [] (dt_SH ++ ex) σ := by
    intro fu
    induction fu with
    | zero =>
      intro s hm hl
      exfalso
      omega
    | succ fu ih =>
      intro s hm hl
      refine dt_wfV fun hwf => ?_
      have hps := dt_pop_le s
      have hfw : 0 ≤ xFw (xWk X s) ∧ xFw (xWk X s) ≤ 9 := by
        cases e : xWk X s with
        | none => exact ⟨(by decide : (0 : Int) ≤ 9), (by decide : (9 : Int) ≤ 9)⟩
        | some b => have h8 := dt_pop_le b; exact ⟨by show (0 : Int) ≤ ((dt_pop b : Nat) : Int); omega, by show ((dt_pop b : Nat) : Int) ≤ 9; omega⟩
      refine dt_iloadn dX4_fewestForAll_8 rfl rfl ?_
      refine dt_iconst dX4_fewestForAll_9 ?_
      refine dt_aloadn dX4_fewestForAll_10 rfl rfl ?_
      refine dt_getR dX4_fewestForAll_11 pg_X4_9_4 rfl rfl ?_
      refine dt_xV dX4_fewestForAll_14 pc_X4_26 rfl (s_X6_people dt_p7) rfl rfl ⟨by decide, by decide⟩ rfl rfl (Nat.le_of_ble_eq_true rfl) ⟨by decide, by decide⟩ (dt_k3 ?_)
      rw [e6]
      refine dt_ishl dX4_fewestForAll_17 ?_
      have hPi : ((2 ^ X.2.1.length : Nat) : Int) = (P2 : Int) := by rw [hP2]
      rw [dj_shl1 (by omega), hPi]
      refine dt_cm_ge (tgt := 50) dX4_fewestForAll_18 (by decide) (by first | assumption | exact hwf _ _ | exact dt_b32 _ | omega | exact ⟨by omega, by omega⟩ | decide | exact ⟨by simp (disch := omega) only [dt_up_s, dt_up_k, dt_up_n]; omega, by simp (disch := omega) only [dt_up_s, dt_up_k, dt_up_n]; omega⟩) (by first | assumption | exact hwf _ _ | exact dt_b32 _ | omega | exact ⟨by omega, by omega⟩ | decide | exact ⟨by simp (disch := omega) only [dt_up_s, dt_up_k, dt_up_n]; omega, by simp (disch := omega) only [dt_up_s, dt_up_k, dt_up_n]; omega⟩) (fun c1 => ?_) (fun c1 => ?_)
      · skip
        have hse : s = P2 := by omega
        refine dt_iloadn dX4_fewestForAll_50 rfl rfl ?_
        refine dt_iret dX4_fewestForAll_51 rfl (by decide) (by decide) ?_
        rw [← hP2, ← hse]
        exact ⟨rfl, rfl, rfl⟩
      · skip
        have hs8 : s < 256 := by omega
        refine dt_iloadn dX4_fewestForAll_21 rfl rfl ?_
        refine dt_xS dX4_fewestForAll_22 pc_X4_30 (s_J6_bitCount_0f7a4 hs8) rfl rfl ⟨by decide, by decide⟩ (Nat.le_of_ble_eq_true rfl) ⟨by decide, by decide⟩ (dt_k3 ?_)
        refine dt_iloadn dX4_fewestForAll_25 rfl rfl ?_
        refine dt_cm_ge (tgt := 44) dX4_fewestForAll_26 (by decide) (by first | assumption | exact hwf _ _ | exact dt_b32 _ | omega | exact ⟨by omega, by omega⟩ | decide | exact ⟨by simp (disch := omega) only [dt_up_s, dt_up_k, dt_up_n]; omega, by simp (disch := omega) only [dt_up_s, dt_up_k, dt_up_n]; omega⟩) (by first | assumption | exact hwf _ _ | exact dt_b32 _ | omega | exact ⟨by omega, by omega⟩ | decide | exact ⟨by simp (disch := omega) only [dt_up_s, dt_up_k, dt_up_n]; omega, by simp (disch := omega) only [dt_up_s, dt_up_k, dt_up_n]; omega⟩) (fun c2 => ?_) (fun c2 => ?_)
        · skip
          have hno : ¬ ((∀ b, xWk X s = some b → dt_pop s < dt_pop b) ∧ xDeal X s) := fun z => by
            cases e : xWk X s with
            | none => have h9 : xFw (xWk X s) = 9 := by rw [e]; rfl
                      omega
            | some b => have h9 : xFw (xWk X s) = ((dt_pop b : Nat) : Int) := by rw [e]; rfl
                        have := z.1 b e
                        omega
          refine dt_iinc dX4_fewestForAll_44 rfl (by decide) rfl ?_
          dsimp only [List.set]
          refine dt_goto (tgt := 8) dX4_fewestForAll_47 (by decide) ?_
          have hL := xWk_n hno
          exact dt_lb (ih (s + 1) (by omega) (by omega)) ⟨rfl, (dt_ie (by rw [hL]; try rfl)), (dt_ie (by rw [hL]; try rfl)), rfl, trivial⟩
        · skip
          have hlt : ∀ b, xWk X s = some b → dt_pop s < dt_pop b := fun b e => by
            have h9 : xFw (xWk X s) = ((dt_pop b : Nat) : Int) := by rw [e]; rfl
            omega
          refine dt_aloadn dX4_fewestForAll_29 rfl rfl ?_
          refine dt_iloadn dX4_fewestForAll_30 rfl rfl ?_
          refine dt_xV dX4_fewestForAll_31 pc_X4_35 rfl (s_X4_isWeekDealt hX hok hs8) rfl rfl ⟨by decide, by decide⟩ rfl rfl (Nat.le_of_ble_eq_true rfl) ⟨by decide, by decide⟩ (dt_k3 ?_)
          refine dt_if_eq (tgt := 44) dX4_fewestForAll_34 (by decide) (by first | assumption | exact hwf _ _ | exact dt_b32 _ | omega | exact ⟨by omega, by omega⟩ | decide | exact ⟨by simp (disch := omega) only [dt_up_s, dt_up_k, dt_up_n]; omega, by simp (disch := omega) only [dt_up_s, dt_up_k, dt_up_n]; omega⟩) (fun c3 => ?_) (fun c3 => ?_)
          · skip
            try simp only [dt_b0, dt_b1, Decidable.not_not, Classical.not_not] at c3
            have hno : ¬ ((∀ b, xWk X s = some b → dt_pop s < dt_pop b) ∧ xDeal X s) := fun z => absurd z.2 (by assumption)
            refine dt_iinc dX4_fewestForAll_44 rfl (by decide) rfl ?_
            dsimp only [List.set]
            refine dt_goto (tgt := 8) dX4_fewestForAll_47 (by decide) ?_
            have hL := xWk_n hno
            exact dt_lb (ih (s + 1) (by omega) (by omega)) ⟨rfl, (dt_ie (by rw [hL]; try rfl)), (dt_ie (by rw [hL]; try rfl)), rfl, trivial⟩
          · skip
            try simp only [dt_b0, dt_b1, Decidable.not_not, Classical.not_not] at c3
            have hye : (∀ b, xWk X s = some b → dt_pop s < dt_pop b) ∧ xDeal X s := ⟨hlt, by assumption⟩
            refine dt_iloadn dX4_fewestForAll_37 rfl rfl ?_
            refine dt_istoren dX4_fewestForAll_38 rfl (by decide) rfl ?_
            dsimp only [List.set]
            refine dt_iloadn dX4_fewestForAll_39 rfl rfl ?_
            refine dt_xS dX4_fewestForAll_40 pc_X4_30 (s_J6_bitCount_0f7a4 hs8) rfl rfl ⟨by decide, by decide⟩ (Nat.le_of_ble_eq_true rfl) ⟨by decide, by decide⟩ (dt_k3 ?_)
            refine dt_istoren dX4_fewestForAll_43 rfl (by decide) rfl ?_
            dsimp only [List.set]
            refine dt_iinc dX4_fewestForAll_44 rfl (by decide) rfl ?_
            dsimp only [List.set]
            refine dt_goto (tgt := 8) dX4_fewestForAll_47 (by decide) ?_
            have hL := xWk_y hye
            exact dt_lb (ih (s + 1) (by omega) (by omega)) ⟨rfl, (dt_ie (by rw [hL]; try rfl)), (dt_ie (by rw [hL]; try rfl)), rfl, trivial⟩
  exact dt_lb (lp8 300 0 (by omega) (by omega)) ⟨rfl, (dt_ie rfl), (dt_ie rfl), rfl, trivial⟩
theorem s_X11_understands {ex : List dt_Shp} {σ : dt_Mem} {A : dS} {day p s : Int} (hI : cInv ex σ A) (h_day : dt_in32 day) (h_p : dt_in32 p) (h_s : dt_in32 s) : dt_Sp mX11_understands 4 0 0 [dt_R 0, dt_I day, dt_I p, dt_I s] (dt_SH ++ ex) σ (fun v sh2 σ2 => v = some (dt_I (oUnder A day p s).1) ∧ sh2 = dt_SH ++ ex ∧ cEnd ex σ σ2 (oUnder A day p s).2) := by
  refine dt_Sp_of (by decide) (Nat.le_of_ble_eq_true rfl) ?_
  refine dt_wfV fun hwf => ?_
  have hc := hI.2.2.1.1
  have hok := hI.2.2.1.2.1
  have e5 := hc.t
  have e6 := hc.p
  have e7 := hc.1
  show dt_V _ _ _ 0 0 0 [some (dt_R 0), some (dt_I day), some (dt_I p), some (dt_I s)] [] _ _
  refine dt_iloadn dX11_understands_0 rfl rfl ?_
  refine dt_xS dX11_understands_1 pc_X11_169 (s_X11_isDay (by first | assumption | exact hwf _ _ | exact dt_b32 _ | omega | exact ⟨by omega, by omega⟩ | decide | exact ⟨by simp (disch := omega) only [dt_up_s, dt_up_k, dt_up_n]; omega, by simp (disch := omega) only [dt_up_s, dt_up_k, dt_up_n]; omega⟩)) rfl rfl ⟨by decide, by decide⟩ (Nat.le_of_ble_eq_true rfl) ⟨by decide, by decide⟩ (dt_k3 ?_)
  refine dt_if_eq (tgt := 25) dX11_understands_4 (by decide) (by first | assumption | exact hwf _ _ | exact dt_b32 _ | omega | exact ⟨by omega, by omega⟩ | decide | exact ⟨by simp (disch := omega) only [dt_up_s, dt_up_k, dt_up_n]; omega, by simp (disch := omega) only [dt_up_s, dt_up_k, dt_up_n]; omega⟩) (fun c1 => ?_) (fun c1 => ?_)
  · skip
    try simp only [dt_b0, dt_b1, Decidable.not_not, Classical.not_not] at c1
    refine dt_ldc dX11_understands_25 pk_X11_74 ?_
    refine dt_iret dX11_understands_27 rfl (by decide) (by decide) ?_
    have e : oUnder A day p s = (-1000001, A) := by
      unfold oUnder
      rw [if_neg (by omega)]
    rw [e]
    exact ⟨rfl, rfl, hI, fun b _ _ => rfl⟩
  · skip
    try simp only [dt_b0, dt_b1, Decidable.not_not, Classical.not_not] at c1
    refine dt_aloadn dX11_understands_7 rfl rfl ?_
    refine dt_getR dX11_understands_8 pg_X11_26_11 rfl rfl ?_
    refine dt_iloadn dX11_understands_11 rfl rfl ?_
    refine dt_xV dX11_understands_12 pc_X11_163 dt_p7.1 (s_X6_hasPerson dt_p7 (by first | assumption | exact hwf _ _ | exact dt_b32 _ | omega | exact ⟨by omega, by omega⟩ | decide | exact ⟨by simp (disch := omega) only [dt_up_s, dt_up_k, dt_up_n]; omega, by simp (disch := omega) only [dt_up_s, dt_up_k, dt_up_n]; omega⟩)) rfl rfl ⟨by decide, by decide⟩ rfl rfl (Nat.le_of_ble_eq_true rfl) ⟨by decide, by decide⟩ (dt_k3 ?_)
    refine dt_if_eq (tgt := 25) dX11_understands_15 (by decide) (by first | assumption | exact hwf _ _ | exact dt_b32 _ | omega | exact ⟨by omega, by omega⟩ | decide | exact ⟨by simp (disch := omega) only [dt_up_s, dt_up_k, dt_up_n]; omega, by simp (disch := omega) only [dt_up_s, dt_up_k, dt_up_n]; omega⟩) (fun c2 => ?_) (fun c2 => ?_)
    · skip
      try simp only [dt_b0, dt_b1, Decidable.not_not, Classical.not_not] at c2
      have hnp : ¬ (0 ≤ p ∧ p < (sN A).2.1.length) := fun z => (show ¬ cPe σ 7 p by assumption) ⟨z.1, by omega, by omega⟩
      refine dt_ldc dX11_understands_25 pk_X11_74 ?_
      refine dt_iret dX11_understands_27 rfl (by decide) (by decide) ?_
      have e : oUnder A day p s = (-1000001, A) := by
        unfold oUnder
        rw [if_neg (by omega)]
      rw [e]
      exact ⟨rfl, rfl, hI, fun b _ _ => rfl⟩
    · skip
      try simp only [dt_b0, dt_b1, Decidable.not_not, Classical.not_not] at c2
      have hpe : cPe σ 7 p := by assumption
      obtain ⟨p1, p2, p3⟩ := id hpe
      refine dt_iloadn dX11_understands_18 rfl rfl ?_
      refine dt_xS dX11_understands_19 pc_X11_182 (s_X11_isSet (by first | assumption | exact hwf _ _ | exact dt_b32 _ | omega | exact ⟨by omega, by omega⟩ | decide | exact ⟨by simp (disch := omega) only [dt_up_s, dt_up_k, dt_up_n]; omega, by simp (disch := omega) only [dt_up_s, dt_up_k, dt_up_n]; omega⟩)) rfl rfl ⟨by decide, by decide⟩ (Nat.le_of_ble_eq_true rfl) ⟨by decide, by decide⟩ (dt_k3 ?_)
      refine dt_if_ne (tgt := 28) dX11_understands_22 (by decide) (by first | assumption | exact hwf _ _ | exact dt_b32 _ | omega | exact ⟨by omega, by omega⟩ | decide | exact ⟨by simp (disch := omega) only [dt_up_s, dt_up_k, dt_up_n]; omega, by simp (disch := omega) only [dt_up_s, dt_up_k, dt_up_n]; omega⟩) (fun c3 => ?_) (fun c3 => ?_)
      · skip
        try simp only [dt_b0, dt_b1, Decidable.not_not, Classical.not_not] at c3
        have hpp : p < (sN A).2.1.length := by omega
        have h0 : 0 < (sN A).1.length := by
          rcases Nat.eq_zero_or_pos (sN A).1.length with z | z
          · exfalso
            have z2 := hI.2.2.1.2.2 (dt_nn.mp z)
            have z3 : (sN A).2.1 = [] := by rw [z2]
            rw [z3] at hpp
            have z4 : (([] : List Nat).length : Int) = 0 := rfl
            omega
          · exact z
        refine dt_aloadn dX11_understands_28 rfl rfl ?_
        refine dt_getR dX11_understands_29 pg_X11_51_11 rfl rfl ?_
        refine dt_aloadn dX11_understands_32 rfl rfl ?_
        refine dt_getR dX11_understands_33 pg_X11_26_11 rfl rfl ?_
        refine dt_iloadn dX11_understands_36 rfl rfl ?_
        refine dt_xV dX11_understands_37 pc_X11_172 dt_p7.1 (s_X6_tongueOf dt_p7 (by omega) (by omega) (by omega)) rfl rfl ⟨by decide, by decide⟩ rfl rfl (Nat.le_of_ble_eq_true rfl) ⟨by decide, by decide⟩ (dt_k3 ?_)
        rw [e5]
        obtain ⟨t, ht⟩ : ∃ t : Nat, day % ((sN A).1.length : Int) = t := ⟨(day % ((sN A).1.length : Int)).toNat, by have := Int.emod_nonneg day (b := ((sN A).1.length : Int)) (by omega); omega⟩
        have ht7 : t < (sN A).1.length := by have := Int.emod_lt_of_pos day (b := ((sN A).1.length : Int)) (by omega); omega
        rw [ht]
        obtain ⟨p, rfl⟩ : ∃ z : Nat, p = z := ⟨p.toNat, by omega⟩
        obtain ⟨s, rfl⟩ : ∃ z : Nat, s = z := ⟨s.toNat, by omega⟩
        obtain ⟨kn, hkn⟩ := dt_lg (l := (sN A).2.1) (i := p) (by omega)
        refine dt_iloadn dX11_understands_40 rfl rfl ?_
        refine dt_iloadn dX11_understands_41 rfl rfl ?_
        refine dt_xV dX11_understands_42 pc_X11_210 rfl (s_X4_fewestBetween hc hok (by omega) (by omega) hkn) rfl rfl ⟨by decide, by decide⟩ rfl rfl (Nat.le_of_ble_eq_true rfl) ⟨by decide, by decide⟩ (dt_k3 ?_)
        refine dt_iret dX11_understands_45 rfl (by decide) (by decide) ?_
        rw [show oUnder A day p s = (xBtw (sN A).2.1 t s p, A) from by unfold oUnder; rw [if_pos (by omega), ht, Int.toNat_natCast, Int.toNat_natCast, Int.toNat_natCast]]
        exact ⟨rfl, rfl, hI, fun b _ _ => rfl⟩
      · skip
        try simp only [dt_b0, dt_b1, Decidable.not_not, Classical.not_not] at c3
        refine dt_ldc dX11_understands_25 pk_X11_74 ?_
        refine dt_iret dX11_understands_27 rfl (by decide) (by decide) ?_
        have e : oUnder A day p s = (-1000001, A) := by
          unfold oUnder
          rw [if_neg (by omega)]
        rw [e]
        exact ⟨rfl, rfl, hI, fun b _ _ => rfl⟩
theorem s_X11_week {ex : List dt_Shp} {σ : dt_Mem} {A : dS} {what : Int} (hI : cInv ex σ A) (h_what : dt_in32 what) : dt_Sp mX11_week 6 0 0 [dt_R 0, dt_I what] (dt_SH ++ ex) σ (fun v sh2 σ2 => v = some (dt_I (oWeek A what).1) ∧ sh2 = dt_SH ++ ex ∧ cEnd ex σ σ2 (oWeek A what).2) := by
  refine dt_Sp_of (by decide) (Nat.le_of_ble_eq_true rfl) ?_
  refine dt_wfV fun hwf => ?_
  have hc := hI.2.2.1.1
  have hok := hI.2.2.1.2.1
  have e5 := hc.t
  have e6 := hc.p
  have e7 := hc.1
  show dt_V _ _ _ 0 0 0 [some (dt_R 0), some (dt_I what), none] [] _ _
  refine dt_aloadn dX11_week_0 rfl rfl ?_
  refine dt_xV dX11_week_1 pc_X11_132 rfl s_X11_hasNoPort rfl rfl ⟨by decide, by decide⟩ rfl rfl (Nat.le_of_ble_eq_true rfl) ⟨by decide, by decide⟩ (dt_k3 ?_)
  refine dt_if_eq (tgt := 10) dX11_week_4 (by decide) (by first | assumption | exact hwf _ _ | exact dt_b32 _ | omega | exact ⟨by omega, by omega⟩ | decide | exact ⟨by simp (disch := omega) only [dt_up_s, dt_up_k, dt_up_n]; omega, by simp (disch := omega) only [dt_up_s, dt_up_k, dt_up_n]; omega⟩) (fun c1 => ?_) (fun c1 => ?_)
  · skip
    try simp only [dt_b0, dt_b1, Decidable.not_not, Classical.not_not] at c1
    refine dt_iloadn dX11_week_10 rfl rfl ?_
    refine dt_iconst dX11_week_11 ?_
    refine dt_iconst dX11_week_12 ?_
    refine dt_xS dX11_week_13 pc_X11_70 (s_X11_isWithin (by first | assumption | exact hwf _ _ | exact dt_b32 _ | omega | exact ⟨by omega, by omega⟩ | decide | exact ⟨by simp (disch := omega) only [dt_up_s, dt_up_k, dt_up_n]; omega, by simp (disch := omega) only [dt_up_s, dt_up_k, dt_up_n]; omega⟩) (by first | assumption | exact hwf _ _ | exact dt_b32 _ | omega | exact ⟨by omega, by omega⟩ | decide | exact ⟨by simp (disch := omega) only [dt_up_s, dt_up_k, dt_up_n]; omega, by simp (disch := omega) only [dt_up_s, dt_up_k, dt_up_n]; omega⟩) (by first | assumption | exact hwf _ _ | exact dt_b32 _ | omega | exact ⟨by omega, by omega⟩ | decide | exact ⟨by simp (disch := omega) only [dt_up_s, dt_up_k, dt_up_n]; omega, by simp (disch := omega) only [dt_up_s, dt_up_k, dt_up_n]; omega⟩)) rfl rfl ⟨by decide, by decide⟩ (Nat.le_of_ble_eq_true rfl) ⟨by decide, by decide⟩ (dt_k3 ?_)
    refine dt_if_ne (tgt := 22) dX11_week_16 (by decide) (by first | assumption | exact hwf _ _ | exact dt_b32 _ | omega | exact ⟨by omega, by omega⟩ | decide | exact ⟨by simp (disch := omega) only [dt_up_s, dt_up_k, dt_up_n]; omega, by simp (disch := omega) only [dt_up_s, dt_up_k, dt_up_n]; omega⟩) (fun c2 => ?_) (fun c2 => ?_)
    · skip
      try simp only [dt_b0, dt_b1, Decidable.not_not, Classical.not_not] at c2
      refine dt_aloadn dX11_week_22 rfl rfl ?_
      refine dt_getR dX11_week_23 pg_X11_51_11 rfl rfl ?_
      refine dt_xV dX11_week_26 pc_X11_213 rfl (s_X4_fewestForAll hc hok) rfl rfl ⟨by decide, by decide⟩ rfl rfl (Nat.le_of_ble_eq_true rfl) ⟨by decide, by decide⟩ (dt_k3 ?_)
      have hp8 := pow8 hok.2.2.1
      have hlt := xWk_lt (X := sN A) (2 ^ (sN A).2.1.length)
      obtain ⟨o, hw⟩ : ∃ z, xWk (sN A) (2 ^ (sN A).2.1.length) = z := ⟨_, rfl⟩
      rw [hw] at hlt ⊢
      have ho32 : -1000000 ≤ xOp o ∧ xOp o ≤ 256 := by
        cases o with
        | none => exact ⟨(by decide : (-1000000 : Int) ≤ -1000000), (by decide : (-1000000 : Int) ≤ 256)⟩
        | some b => have := hlt b rfl; exact ⟨by show -1000000 ≤ (b : Int); omega, by show (b : Int) ≤ 256; omega⟩
      refine dt_istoren dX11_week_29 rfl (by decide) rfl ?_
      dsimp only [List.set]
      refine dt_iloadn dX11_week_30 rfl rfl ?_
      refine dt_ldc dX11_week_31 pk_X11_156 ?_
      refine dt_cm_eq (tgt := 41) dX11_week_33 (by decide) (by first | assumption | exact hwf _ _ | exact dt_b32 _ | omega | exact ⟨by omega, by omega⟩ | decide | exact ⟨by simp (disch := omega) only [dt_up_s, dt_up_k, dt_up_n]; omega, by simp (disch := omega) only [dt_up_s, dt_up_k, dt_up_n]; omega⟩) (by first | assumption | exact hwf _ _ | exact dt_b32 _ | omega | exact ⟨by omega, by omega⟩ | decide | exact ⟨by simp (disch := omega) only [dt_up_s, dt_up_k, dt_up_n]; omega, by simp (disch := omega) only [dt_up_s, dt_up_k, dt_up_n]; omega⟩) (fun c3 => ?_) (fun c3 => ?_)
      · skip
        refine dt_iloadn dX11_week_41 rfl rfl ?_
        refine dt_iret dX11_week_42 rfl (by decide) (by decide) ?_
        cases o with
        | none =>
          have e : oWeek A what = (-1000000, A) := by
            unfold oWeek
            rw [if_neg (fun q => by have := dt_nn.mpr q; omega), if_neg (by omega)]
            simp only [hw]
          rw [e]
          exact ⟨rfl, rfl, hI, fun b _ _ => rfl⟩
        | some b =>
          have hw1 : what = 1 := by
            first
            | assumption
            | (exfalso; have z : xOp (some b) = -1000000 := by assumption
               have z : (b : Int) = -1000000 := z
               omega)
          have e : oWeek A what = ((b : Int), A) := by
            unfold oWeek
            rw [if_neg (fun q => by have := dt_nn.mpr q; omega), if_neg (by omega)]
            simp only [hw]
            rw [if_pos hw1]
          rw [e]
          exact ⟨rfl, rfl, hI, fun b _ _ => rfl⟩
      · skip
        refine dt_iloadn dX11_week_36 rfl rfl ?_
        refine dt_iconst dX11_week_37 ?_
        refine dt_cm_ne (tgt := 43) dX11_week_38 (by decide) (by first | assumption | exact hwf _ _ | exact dt_b32 _ | omega | exact ⟨by omega, by omega⟩ | decide | exact ⟨by simp (disch := omega) only [dt_up_s, dt_up_k, dt_up_n]; omega, by simp (disch := omega) only [dt_up_s, dt_up_k, dt_up_n]; omega⟩) (by first | assumption | exact hwf _ _ | exact dt_b32 _ | omega | exact ⟨by omega, by omega⟩ | decide | exact ⟨by simp (disch := omega) only [dt_up_s, dt_up_k, dt_up_n]; omega, by simp (disch := omega) only [dt_up_s, dt_up_k, dt_up_n]; omega⟩) (fun c4 => ?_) (fun c4 => ?_)
        · skip
          refine dt_iloadn dX11_week_43 rfl rfl ?_
          obtain ⟨b, rfl⟩ : ∃ b, o = some b := by
            cases o with
            | none => exact absurd rfl (by assumption)
            | some b => exact ⟨b, rfl⟩
          have hb8 := hlt b rfl
          rw [show xOp (some b) = (b : Int) from rfl]
          refine dt_xS dX11_week_44 pc_X11_216 (s_J6_bitCount_0f7a4 (by omega)) rfl rfl ⟨by decide, by decide⟩ (Nat.le_of_ble_eq_true rfl) ⟨by decide, by decide⟩ (dt_k3 ?_)
          refine dt_iret dX11_week_47 rfl (by decide) (by decide) ?_
          have e : oWeek A what = (((dt_pop b : Nat) : Int), A) := by
            unfold oWeek
            rw [if_neg (fun q => by have := dt_nn.mpr q; omega), if_neg (by omega)]
            simp only [hw]
            rw [if_neg (by omega)]
          rw [e]
          exact ⟨rfl, rfl, hI, fun b _ _ => rfl⟩
        · skip
          refine dt_iloadn dX11_week_41 rfl rfl ?_
          refine dt_iret dX11_week_42 rfl (by decide) (by decide) ?_
          cases o with
          | none =>
            have e : oWeek A what = (-1000000, A) := by
              unfold oWeek
              rw [if_neg (fun q => by have := dt_nn.mpr q; omega), if_neg (by omega)]
              simp only [hw]
            rw [e]
            exact ⟨rfl, rfl, hI, fun b _ _ => rfl⟩
          | some b =>
            have hw1 : what = 1 := by
              first
              | assumption
              | (exfalso; have z : xOp (some b) = -1000000 := by assumption
                 have z : (b : Int) = -1000000 := z
                 omega)
            have e : oWeek A what = ((b : Int), A) := by
              unfold oWeek
              rw [if_neg (fun q => by have := dt_nn.mpr q; omega), if_neg (by omega)]
              simp only [hw]
              rw [if_pos hw1]
            rw [e]
            exact ⟨rfl, rfl, hI, fun b _ _ => rfl⟩
    · skip
      try simp only [dt_b0, dt_b1, Decidable.not_not, Classical.not_not] at c2
      refine dt_ldc dX11_week_19 pk_X11_74 ?_
      refine dt_iret dX11_week_21 rfl (by decide) (by decide) ?_
      have e : oWeek A what = (-1000001, A) := by
        unfold oWeek
        rw [if_neg (fun q => by have := dt_nn.mpr q; omega), if_pos (by omega)]
      rw [e]
      exact ⟨rfl, rfl, hI, fun b _ _ => rfl⟩
  · skip
    try simp only [dt_b0, dt_b1, Decidable.not_not, Classical.not_not] at c1
    refine dt_ldc dX11_week_7 pk_X11_136 ?_
    refine dt_iret dX11_week_9 rfl (by decide) (by decide) ?_
    have e : oWeek A what = (-1000002, A) := by
      unfold oWeek
      rw [if_pos (dt_nn.mp (by omega))]
    rw [e]
    exact ⟨rfl, rfl, hI, fun b _ _ => rfl⟩
theorem s_X12_between {ex : List dt_Shp} {σ : dt_Mem} {X : dX} {t s p kn : Nat} (hX : rX σ X) (ht : t < 7) (hs : s < 256) (hp : X.2.1[p]? = some kn) : dt_Sp mX12_between 0 0 0 [dt_R 40, dt_I (t : Int), dt_I (p : Int), dt_I (s : Int)] (dt_SH ++ ex) σ (fun v sh2 σ2 => v = some (dt_I (xBtw X.2.1 t s p)) ∧ sh2 = dt_SH ++ ex ∧ σ2 = σ) := by
  refine dt_Sp_of (by decide) (Nat.le_of_ble_eq_true rfl) ?_
  refine dt_wfV fun hwf => ?_
  have hP := hX.2.ps
  have e0 := hX.t
  have e1 := hX.p
  have e2 := hX.2.1
  have e3 := hX.2.2.2.1
  have hkn := hP kn (List.mem_of_getElem? hp)
  have hpm := hX.1.2.2.2.2 p kn hp
  rw [Nat.zero_add] at hpm
  have hpg : X.2.1.getD p 0 = kn := dt_gd hp
  have hpl := dt_gl hp
  have ht7 := pow7 ht
  have hdl : kn / 2 ^ t ≤ kn := Nat.div_le_self _ _
  show dt_V _ _ _ 0 0 0 [some (dt_R 40), some (dt_I (t : Int)), some (dt_I (p : Int)), some (dt_I (s : Int)), none, none, none, none, none, none] [] _ _
  refine dt_aloadn dX12_between_0 rfl rfl ?_
  refine dt_getR dX12_between_1 pg_X12_19_12 rfl rfl ?_
  refine dt_bipush dX12_between_4 (by decide) ?_
  refine dt_iloadn dX12_between_6 rfl rfl ?_
  refine dt_iadd dX12_between_7 ?_
  refine dt_iald dX12_between_8 rfl (by first | omega | (simp (disch := omega) only [dt_up_s, dt_up_k, dt_up_n]; omega)) (by first | omega | (simp (disch := omega) only [dt_up_s, dt_up_k, dt_up_n]; omega)) (by decide) ?_
  rw [show ((10 : Int) + (p : Int)).toNat = 10 + p by omega, hpm]
  refine dt_istore dX12_between_9 (by decide) rfl ?_
  dsimp only [List.set]
  refine dt_iload dX12_between_11 rfl ?_
  refine dt_iloadn dX12_between_13 rfl rfl ?_
  refine dt_ishr dX12_between_14 ?_
  rw [dj_shr_nn (by omega) (by omega)]
  refine dt_iconst dX12_between_15 ?_
  refine dt_iand dX12_between_16 ?_
  rw [dj_and1 (by omega)]
  refine dt_iconst dX12_between_17 ?_
  refine dt_cm_ne (tgt := 23) dX12_between_18 (by decide) (by first | assumption | exact hwf _ _ | exact dt_b32 _ | omega | exact ⟨by omega, by omega⟩ | decide | exact ⟨by simp (disch := omega) only [dt_up_s, dt_up_k, dt_up_n]; omega, by simp (disch := omega) only [dt_up_s, dt_up_k, dt_up_n]; omega⟩) (by first | assumption | exact hwf _ _ | exact dt_b32 _ | omega | exact ⟨by omega, by omega⟩ | decide | exact ⟨by simp (disch := omega) only [dt_up_s, dt_up_k, dt_up_n]; omega, by simp (disch := omega) only [dt_up_s, dt_up_k, dt_up_n]; omega⟩) (fun c1 => ?_) (fun c1 => ?_)
  · skip
    have hz0 : X.2.1.getD p 0 &&& xHr X.2.1 t s p 0 = 0 := by
      rw [hpg]
      exact Classical.byContradiction (fun z => by have := (and_pow hkn ht).mp z; omega)
    refine dt_iconst dX12_between_23 ?_
    refine dt_iloadn dX12_between_24 rfl rfl ?_
    refine dt_ishl dX12_between_25 ?_
    rw [dj_shl1 (by omega)]
    refine dt_istore dX12_between_26 (by decide) rfl ?_
    dsimp only [List.set]
    refine dt_iconst dX12_between_28 ?_
    refine dt_istore dX12_between_29 (by decide) rfl ?_
    dsimp only [List.set]
    have lp31 : ∀ (fu : Nat) (n : Nat), 9 - (n : Int) < (fu : Int) → (n ≤ 8) → (xBt X.2.1 t s p (8 - n) (n + 1) = xBtw X.2.1 t s p) →  dt_V mX12_between (dt_rm 0 0 0) (dt_MC (fun v sh2 σ2 => v = some (dt_I (xBtw X.2.1 t s p)) ∧ sh2 = dt_SH ++ ex ∧ σ2 = σ) 0 0) 0 0 31 [some (dt_R 40), some (dt_I (t : Int)), some (dt_I (p : Int)), some (dt_I (s : Int)), some (dt_I (kn : Int)), some (dt_I ((xHr X.2.1 t s p n : Nat) : Int)), some (dt_I ((n + 1 : Nat) : Int)), none, none, none] [] (dt_SH ++ ex) σ := by
      intro fu
      induction fu with
      | zero =>
        intro n hm hn jr
        exfalso
        omega
      | succ fu ih =>
        intro n hm hn jr
        refine dt_wfV fun hwf => ?_
        have ih0 := ih
        have hhl := xHr_lt (s := s) (wo := (p : Int)) hP ht n
        refine dt_iload dX12_between_31 rfl ?_
        refine dt_bipush dX12_between_33 (by decide) ?_
        refine dt_cm_gt (tgt := 146) dX12_between_35 (by decide) (by first | assumption | exact hwf _ _ | exact dt_b32 _ | omega | exact ⟨by omega, by omega⟩ | decide | exact ⟨by simp (disch := omega) only [dt_up_s, dt_up_k, dt_up_n]; omega, by simp (disch := omega) only [dt_up_s, dt_up_k, dt_up_n]; omega⟩) (by first | assumption | exact hwf _ _ | exact dt_b32 _ | omega | exact ⟨by omega, by omega⟩ | decide | exact ⟨by simp (disch := omega) only [dt_up_s, dt_up_k, dt_up_n]; omega, by simp (disch := omega) only [dt_up_s, dt_up_k, dt_up_n]; omega⟩) (fun c2 => ?_) (fun c2 => ?_)
        · skip
          refine dt_ldc dX12_between_146 pk_X12_89 ?_
          refine dt_iret dX12_between_148 rfl (by decide) (by decide) ?_
          have e : xBtw X.2.1 t s p = -1000000 := by rw [← jr, show 8 - n = 0 by omega]; rfl
          rw [e]
          exact ⟨rfl, rfl, rfl⟩
        · skip
          obtain ⟨z, hz⟩ : ∃ z, 8 - n = z + 1 := ⟨8 - n - 1, by omega⟩
          refine dt_iload dX12_between_38 rfl ?_
          refine dt_istore dX12_between_40 (by decide) rfl ?_
          dsimp only [List.set]
          refine dt_iconst dX12_between_42 ?_
          refine dt_istore dX12_between_43 (by decide) rfl ?_
          dsimp only [List.set]
          have lp45 : ∀ (fu : Nat) (i : Nat), (X.2.1.length : Int) - i < (fu : Int) → (i ≤ X.2.1.length) →  dt_V mX12_between (dt_rm 0 0 0) (dt_MC (fun v sh2 σ2 => v = some (dt_I (xBtw X.2.1 t s p)) ∧ sh2 = dt_SH ++ ex ∧ σ2 = σ) 0 0) 0 0 45 [some (dt_R 40), some (dt_I (t : Int)), some (dt_I (p : Int)), some (dt_I (s : Int)), some (dt_I (kn : Int)), some (dt_I ((xHr X.2.1 t s p n : Nat) : Int)), some (dt_I ((n + 1 : Nat) : Int)), some (dt_I ((xPass X.2.1 (xHr X.2.1 t s p n) s p i : Nat) : Int)), some (dt_I (i : Int)), none] [] (dt_SH ++ ex) σ := by
            intro fu
            induction fu with
            | zero =>
              intro i hm hi
              exfalso
              omega
            | succ fu ih =>
              intro i hm hi
              refine dt_wfV fun hwf => ?_
              have hpll := xPass_lt (s := s) (wo := (p : Int)) hP hhl i
              have had2 : xPass X.2.1 (xHr X.2.1 t s p n) s p i &&& kn ≤ xPass X.2.1 (xHr X.2.1 t s p n) s p i := Nat.and_le_left
              refine dt_iload dX12_between_45 rfl ?_
              refine dt_aloadn dX12_between_47 rfl rfl ?_
              refine dt_getR dX12_between_48 pg_X12_19_12 rfl rfl ?_
              refine dt_iconst dX12_between_51 ?_
              refine dt_iald dX12_between_52 rfl (by first | omega | (simp (disch := omega) only [dt_up_s, dt_up_k, dt_up_n]; omega)) (by first | omega | (simp (disch := omega) only [dt_up_s, dt_up_k, dt_up_n]; omega)) (by decide) ?_
              rw [show Int.toNat 1 = 1 from rfl, e1]
              refine dt_cm_ge (tgt := 125) dX12_between_53 (by decide) (by first | assumption | exact hwf _ _ | exact dt_b32 _ | omega | exact ⟨by omega, by omega⟩ | decide | exact ⟨by simp (disch := omega) only [dt_up_s, dt_up_k, dt_up_n]; omega, by simp (disch := omega) only [dt_up_s, dt_up_k, dt_up_n]; omega⟩) (by first | assumption | exact hwf _ _ | exact dt_b32 _ | omega | exact ⟨by omega, by omega⟩ | decide | exact ⟨by simp (disch := omega) only [dt_up_s, dt_up_k, dt_up_n]; omega, by simp (disch := omega) only [dt_up_s, dt_up_k, dt_up_n]; omega⟩) (fun c3 => ?_) (fun c3 => ?_)
              · skip
                refine dt_iload dX12_between_125 rfl ?_
                refine dt_istore dX12_between_127 (by decide) rfl ?_
                dsimp only [List.set]
                refine dt_iload dX12_between_129 rfl ?_
                refine dt_iload dX12_between_131 rfl ?_
                refine dt_iand dX12_between_133 ?_
                rw [dj_and_nn (by omega)]
                refine dt_if_eq (tgt := 140) dX12_between_134 (by decide) (by first | assumption | exact hwf _ _ | exact dt_b32 _ | omega | exact ⟨by omega, by omega⟩ | decide | exact ⟨by simp (disch := omega) only [dt_up_s, dt_up_k, dt_up_n]; omega, by simp (disch := omega) only [dt_up_s, dt_up_k, dt_up_n]; omega⟩) (fun c4 => ?_) (fun c4 => ?_)
                · skip
                  have hz2 : X.2.1.getD p 0 &&& xHr X.2.1 t s p (n + 1) = 0 := by rw [hpg, Nat.and_comm]; show xPass X.2.1 (xHr X.2.1 t s p n) s p X.2.1.length &&& kn = 0; rw [show X.2.1.length = i by omega]; omega
                  refine dt_iinc dX12_between_140 rfl (by decide) rfl ?_
                  dsimp only [List.set]
                  refine dt_goto (tgt := 31) dX12_between_143 (by decide) ?_
                  exact dt_lb (ih0 (n + 1) (by omega) (by omega) (by rw [show 8 - (n + 1) = z by omega]; exact (xBt_s (f := z) hz2).symm.trans (hz ▸ jr))) ⟨rfl, rfl, rfl, rfl, rfl, (dt_ie (by show _ = ((xPass X.2.1 (xHr X.2.1 t s p n) s p X.2.1.length : Nat) : Int); rw [show X.2.1.length = i by omega])), (dt_ie rfl), trivial⟩
                · skip
                  have hz1 : X.2.1.getD p 0 &&& xHr X.2.1 t s p (n + 1) ≠ 0 := by rw [hpg, Nat.and_comm]; show xPass X.2.1 (xHr X.2.1 t s p n) s p X.2.1.length &&& kn ≠ 0; rw [show X.2.1.length = i by omega]; omega
                  refine dt_iload dX12_between_137 rfl ?_
                  refine dt_iret dX12_between_139 rfl (by decide) (by decide) ?_
                  have e : xBtw X.2.1 t s p = ((n + 1 : Nat) : Int) := by rw [← jr, hz]; exact xBt_y hz1
                  rw [e]
                  exact ⟨rfl, rfl, rfl⟩
              · skip
                obtain ⟨k2, hk2⟩ := dt_lg (l := X.2.1) (i := i) (by omega)
                have hk28 := hP k2 (List.mem_of_getElem? hk2)
                have hk2m := hX.1.2.2.2.2 i k2 hk2
                rw [Nat.zero_add] at hk2m
                have hk2g : X.2.1.getD i 0 = k2 := dt_gd hk2
                have had : k2 &&& xHr X.2.1 t s p n ≤ k2 := Nat.and_le_left
                refine dt_iload dX12_between_56 rfl ?_
                refine dt_iloadn dX12_between_58 rfl rfl ?_
                refine dt_cm_eq (tgt := 92) dX12_between_59 (by decide) (by first | assumption | exact hwf _ _ | exact dt_b32 _ | omega | exact ⟨by omega, by omega⟩ | decide | exact ⟨by simp (disch := omega) only [dt_up_s, dt_up_k, dt_up_n]; omega, by simp (disch := omega) only [dt_up_s, dt_up_k, dt_up_n]; omega⟩) (by first | assumption | exact hwf _ _ | exact dt_b32 _ | omega | exact ⟨by omega, by omega⟩ | decide | exact ⟨by simp (disch := omega) only [dt_up_s, dt_up_k, dt_up_n]; omega, by simp (disch := omega) only [dt_up_s, dt_up_k, dt_up_n]; omega⟩) (fun c5 => ?_) (fun c5 => ?_)
                · skip
                  have hno : ¬ xPa X.2.1 (xHr X.2.1 t s p n) s p i := fun z => z.1 (by omega)
                  refine dt_iconst dX12_between_92 ?_
                  refine dt_istore dX12_between_93 (by decide) rfl ?_
                  dsimp only [List.set]
                  refine dt_iload dX12_between_95 rfl ?_
                  refine dt_iload dX12_between_97 rfl ?_
                  refine dt_if_eq (tgt := 115) dX12_between_99 (by decide) (by first | assumption | exact hwf _ _ | exact dt_b32 _ | omega | exact ⟨by omega, by omega⟩ | decide | exact ⟨by simp (disch := omega) only [dt_up_s, dt_up_k, dt_up_n]; omega, by simp (disch := omega) only [dt_up_s, dt_up_k, dt_up_n]; omega⟩) (fun c6 => ?_) (fun c6 => ?_)
                  · skip
                    refine dt_iconst dX12_between_115 ?_
                    refine dt_ior dX12_between_116 ?_
                    rw [dj_or0 (by omega)]
                    refine dt_istore dX12_between_117 (by decide) rfl ?_
                    dsimp only [List.set]
                    refine dt_iinc dX12_between_119 rfl (by decide) rfl ?_
                    dsimp only [List.set]
                    refine dt_goto (tgt := 45) dX12_between_122 (by decide) ?_
                    have hval : ((xPass X.2.1 (xHr X.2.1 t s p n) s p i : Nat) : Int) = ((xPass X.2.1 (xHr X.2.1 t s p n) s p (i + 1) : Nat) : Int) := by rw [xPass_n hno]
                    exact dt_lb (ih (i + 1) (by omega) (by omega)) ⟨rfl, rfl, rfl, rfl, rfl, rfl, rfl, (dt_ie hval), rfl, trivial⟩
                  · skip
                    first | exact absurd c6 (by omega) | exact absurd c6 (by decide) | exact absurd rfl c6
                · skip
                  have hw : (i : Int) ≠ (p : Int) := by omega
                  refine dt_iloadn dX12_between_62 rfl rfl ?_
                  refine dt_iload dX12_between_63 rfl ?_
                  refine dt_ishr dX12_between_65 ?_
                  have hsl : s / 2 ^ i ≤ s := Nat.div_le_self _ _
                  rw [dj_shr_nn (by omega) (by omega)]
                  refine dt_iconst dX12_between_66 ?_
                  refine dt_iand dX12_between_67 ?_
                  rw [dj_and1 (by omega)]
                  refine dt_iconst dX12_between_68 ?_
                  refine dt_cm_ne (tgt := 92) dX12_between_69 (by decide) (by first | assumption | exact hwf _ _ | exact dt_b32 _ | omega | exact ⟨by omega, by omega⟩ | decide | exact ⟨by simp (disch := omega) only [dt_up_s, dt_up_k, dt_up_n]; omega, by simp (disch := omega) only [dt_up_s, dt_up_k, dt_up_n]; omega⟩) (by first | assumption | exact hwf _ _ | exact dt_b32 _ | omega | exact ⟨by omega, by omega⟩ | decide | exact ⟨by simp (disch := omega) only [dt_up_s, dt_up_k, dt_up_n]; omega, by simp (disch := omega) only [dt_up_s, dt_up_k, dt_up_n]; omega⟩) (fun c7 => ?_) (fun c7 => ?_)
                  · skip
                    have hno : ¬ xPa X.2.1 (xHr X.2.1 t s p n) s p i := fun z => by have := z.2.1; omega
                    refine dt_iconst dX12_between_92 ?_
                    refine dt_istore dX12_between_93 (by decide) rfl ?_
                    dsimp only [List.set]
                    refine dt_iload dX12_between_95 rfl ?_
                    refine dt_iload dX12_between_97 rfl ?_
                    refine dt_if_eq (tgt := 115) dX12_between_99 (by decide) (by first | assumption | exact hwf _ _ | exact dt_b32 _ | omega | exact ⟨by omega, by omega⟩ | decide | exact ⟨by simp (disch := omega) only [dt_up_s, dt_up_k, dt_up_n]; omega, by simp (disch := omega) only [dt_up_s, dt_up_k, dt_up_n]; omega⟩) (fun c8 => ?_) (fun c8 => ?_)
                    · skip
                      refine dt_iconst dX12_between_115 ?_
                      refine dt_ior dX12_between_116 ?_
                      rw [dj_or0 (by omega)]
                      refine dt_istore dX12_between_117 (by decide) rfl ?_
                      dsimp only [List.set]
                      refine dt_iinc dX12_between_119 rfl (by decide) rfl ?_
                      dsimp only [List.set]
                      refine dt_goto (tgt := 45) dX12_between_122 (by decide) ?_
                      have hval : ((xPass X.2.1 (xHr X.2.1 t s p n) s p i : Nat) : Int) = ((xPass X.2.1 (xHr X.2.1 t s p n) s p (i + 1) : Nat) : Int) := by rw [xPass_n hno]
                      exact dt_lb (ih (i + 1) (by omega) (by omega)) ⟨rfl, rfl, rfl, rfl, rfl, rfl, rfl, (dt_ie hval), rfl, trivial⟩
                    · skip
                      first | exact absurd c8 (by omega) | exact absurd c8 (by decide) | exact absurd rfl c8
                  · skip
                    have hb : s / 2 ^ i % 2 = 1 := by omega
                    refine dt_aloadn dX12_between_72 rfl rfl ?_
                    refine dt_getR dX12_between_73 pg_X12_19_12 rfl rfl ?_
                    refine dt_bipush dX12_between_76 (by decide) ?_
                    refine dt_iload dX12_between_78 rfl ?_
                    refine dt_iadd dX12_between_80 ?_
                    refine dt_iald dX12_between_81 rfl (by first | omega | (simp (disch := omega) only [dt_up_s, dt_up_k, dt_up_n]; omega)) (by first | omega | (simp (disch := omega) only [dt_up_s, dt_up_k, dt_up_n]; omega)) (by decide) ?_
                    rw [show ((10 : Int) + (i : Int)).toNat = 10 + i by omega, hk2m]
                    refine dt_iload dX12_between_82 rfl ?_
                    refine dt_iand dX12_between_84 ?_
                    rw [dj_and_nn (by omega)]
                    refine dt_if_eq (tgt := 92) dX12_between_85 (by decide) (by first | assumption | exact hwf _ _ | exact dt_b32 _ | omega | exact ⟨by omega, by omega⟩ | decide | exact ⟨by simp (disch := omega) only [dt_up_s, dt_up_k, dt_up_n]; omega, by simp (disch := omega) only [dt_up_s, dt_up_k, dt_up_n]; omega⟩) (fun c9 => ?_) (fun c9 => ?_)
                    · skip
                      have hno : ¬ xPa X.2.1 (xHr X.2.1 t s p n) s p i := fun z => z.2.2 (by rw [hk2g]; omega)
                      refine dt_iconst dX12_between_92 ?_
                      refine dt_istore dX12_between_93 (by decide) rfl ?_
                      dsimp only [List.set]
                      refine dt_iload dX12_between_95 rfl ?_
                      refine dt_iload dX12_between_97 rfl ?_
                      refine dt_if_eq (tgt := 115) dX12_between_99 (by decide) (by first | assumption | exact hwf _ _ | exact dt_b32 _ | omega | exact ⟨by omega, by omega⟩ | decide | exact ⟨by simp (disch := omega) only [dt_up_s, dt_up_k, dt_up_n]; omega, by simp (disch := omega) only [dt_up_s, dt_up_k, dt_up_n]; omega⟩) (fun c10 => ?_) (fun c10 => ?_)
                      · skip
                        refine dt_iconst dX12_between_115 ?_
                        refine dt_ior dX12_between_116 ?_
                        rw [dj_or0 (by omega)]
                        refine dt_istore dX12_between_117 (by decide) rfl ?_
                        dsimp only [List.set]
                        refine dt_iinc dX12_between_119 rfl (by decide) rfl ?_
                        dsimp only [List.set]
                        refine dt_goto (tgt := 45) dX12_between_122 (by decide) ?_
                        have hval : ((xPass X.2.1 (xHr X.2.1 t s p n) s p i : Nat) : Int) = ((xPass X.2.1 (xHr X.2.1 t s p n) s p (i + 1) : Nat) : Int) := by rw [xPass_n hno]
                        exact dt_lb (ih (i + 1) (by omega) (by omega)) ⟨rfl, rfl, rfl, rfl, rfl, rfl, rfl, (dt_ie hval), rfl, trivial⟩
                      · skip
                        first | exact absurd c10 (by omega) | exact absurd c10 (by decide) | exact absurd rfl c10
                    · skip
                      have hye : xPa X.2.1 (xHr X.2.1 t s p n) s p i := ⟨hw, hb, by rw [hk2g]; omega⟩
                      refine dt_iconst dX12_between_88 ?_
                      refine dt_goto (tgt := 93) dX12_between_89 (by decide) ?_
                      refine dt_istore dX12_between_93 (by decide) rfl ?_
                      dsimp only [List.set]
                      refine dt_iload dX12_between_95 rfl ?_
                      refine dt_iload dX12_between_97 rfl ?_
                      refine dt_if_eq (tgt := 115) dX12_between_99 (by decide) (by first | assumption | exact hwf _ _ | exact dt_b32 _ | omega | exact ⟨by omega, by omega⟩ | decide | exact ⟨by simp (disch := omega) only [dt_up_s, dt_up_k, dt_up_n]; omega, by simp (disch := omega) only [dt_up_s, dt_up_k, dt_up_n]; omega⟩) (fun c11 => ?_) (fun c11 => ?_)
                      · skip
                        first | exact absurd c11 (by omega) | exact absurd c11 (by decide) | exact absurd rfl c11
                      · skip
                        refine dt_aloadn dX12_between_102 rfl rfl ?_
                        refine dt_getR dX12_between_103 pg_X12_19_12 rfl rfl ?_
                        refine dt_bipush dX12_between_106 (by decide) ?_
                        refine dt_iload dX12_between_108 rfl ?_
                        refine dt_iadd dX12_between_110 ?_
                        refine dt_iald dX12_between_111 rfl (by first | omega | (simp (disch := omega) only [dt_up_s, dt_up_k, dt_up_n]; omega)) (by first | omega | (simp (disch := omega) only [dt_up_s, dt_up_k, dt_up_n]; omega)) (by decide) ?_
                        rw [show ((10 : Int) + (i : Int)).toNat = 10 + i by omega, hk2m]
                        refine dt_goto (tgt := 116) dX12_between_112 (by decide) ?_
                        refine dt_ior dX12_between_116 ?_
                        rw [dj_or_nn (by omega) (by omega)]
                        refine dt_istore dX12_between_117 (by decide) rfl ?_
                        dsimp only [List.set]
                        refine dt_iinc dX12_between_119 rfl (by decide) rfl ?_
                        dsimp only [List.set]
                        refine dt_goto (tgt := 45) dX12_between_122 (by decide) ?_
                        have hval : ((xPass X.2.1 (xHr X.2.1 t s p n) s p i ||| k2 : Nat) : Int) = ((xPass X.2.1 (xHr X.2.1 t s p n) s p (i + 1) : Nat) : Int) := by rw [xPass_y hye, hk2g]
                        exact dt_lb (ih (i + 1) (by omega) (by omega)) ⟨rfl, rfl, rfl, rfl, rfl, rfl, rfl, (dt_ie hval), rfl, trivial⟩
          exact dt_lb (lp45 9 0 (by omega) (by omega)) ⟨rfl, rfl, rfl, rfl, rfl, rfl, rfl, (dt_ie rfl), rfl, trivial⟩
    have j0 : xBt X.2.1 t s p 8 1 = xBtw X.2.1 t s p := (xBt_s (f := 8) (k := 0) hz0).symm
    exact dt_lb (lp31 10 0 (by omega) (by omega) j0) ⟨rfl, rfl, rfl, rfl, rfl, (dt_ie rfl), (dt_ie rfl), trivial⟩
  · skip
    have hz1 : X.2.1.getD p 0 &&& xHr X.2.1 t s p 0 ≠ 0 := by rw [hpg]; exact (and_pow hkn ht).mpr (by omega)
    refine dt_iconst dX12_between_21 ?_
    refine dt_iret dX12_between_22 rfl (by decide) (by decide) ?_
    have e : xBtw X.2.1 t s p = 0 := xBt_y (f := 8) (k := 0) hz1
    rw [e]
    exact ⟨rfl, rfl, rfl⟩
theorem s_X12_bits {sh : List dt_Shp} {σ : dt_Mem} {n : Nat} (hn : n < 256) : dt_Sp mX12_bits 0 0 0 [dt_I (n : Int)] sh σ (fun v sh2 σ2 => v = some (dt_I ((dt_pop n : Nat) : Int)) ∧ sh2 = sh ∧ σ2 = σ) := by
  refine dt_Sp_of (by decide) (Nat.le_of_ble_eq_true rfl) ?_
  refine dt_wfV fun hwf => ?_
  show dt_V _ _ _ 0 0 0 [some (dt_I (n : Int)), none, none] [] _ _
  refine dt_iconst dX12_bits_0 ?_
  refine dt_istoren dX12_bits_1 rfl (by decide) rfl ?_
  dsimp only [List.set]
  refine dt_iconst dX12_bits_2 ?_
  refine dt_istoren dX12_bits_3 rfl (by decide) rfl ?_
  dsimp only [List.set]
  have lp4 : ∀ (fu : Nat) (k : Nat), 8 - (k : Int) < (fu : Int) → (k ≤ 8) →  dt_V mX12_bits (dt_rm 0 0 0) (dt_MC (fun v sh2 σ2 => v = some (dt_I ((dt_pop n : Nat) : Int)) ∧ sh2 = sh ∧ σ2 = σ) 0 0) 0 0 4 [some (dt_I (n : Int)), some (dt_I ((xBits n k : Nat) : Int)), some (dt_I (k : Int))] [] sh σ := by
    intro fu
    induction fu with
    | zero =>
      intro k hm hk
      exfalso
      omega
    | succ fu ih =>
      intro k hm hk
      refine dt_wfV fun hwf => ?_
      have hbl := xBits_le n k
      have hdl : n / 2 ^ k ≤ n := Nat.div_le_self _ _
      refine dt_iloadn dX12_bits_4 rfl rfl ?_
      refine dt_bipush dX12_bits_5 (by decide) ?_
      refine dt_cm_ge (tgt := 24) dX12_bits_7 (by decide) (by first | assumption | exact hwf _ _ | exact dt_b32 _ | omega | exact ⟨by omega, by omega⟩ | decide | exact ⟨by simp (disch := omega) only [dt_up_s, dt_up_k, dt_up_n]; omega, by simp (disch := omega) only [dt_up_s, dt_up_k, dt_up_n]; omega⟩) (by first | assumption | exact hwf _ _ | exact dt_b32 _ | omega | exact ⟨by omega, by omega⟩ | decide | exact ⟨by simp (disch := omega) only [dt_up_s, dt_up_k, dt_up_n]; omega, by simp (disch := omega) only [dt_up_s, dt_up_k, dt_up_n]; omega⟩) (fun c1 => ?_) (fun c1 => ?_)
      · skip
        refine dt_iloadn dX12_bits_24 rfl rfl ?_
        refine dt_iret dX12_bits_25 rfl (by decide) (by decide) ?_
        rw [← xBits_8, show k = 8 by omega]
        exact ⟨rfl, rfl, rfl⟩
      · skip
        refine dt_iloadn dX12_bits_10 rfl rfl ?_
        refine dt_iloadn dX12_bits_11 rfl rfl ?_
        refine dt_iloadn dX12_bits_12 rfl rfl ?_
        refine dt_ishr dX12_bits_13 ?_
        rw [dj_shr_nn (by omega) (by omega)]
        refine dt_iconst dX12_bits_14 ?_
        refine dt_iand dX12_bits_15 ?_
        rw [dj_and1 (by omega)]
        refine dt_iadd dX12_bits_16 ?_
        refine dt_istoren dX12_bits_17 rfl (by decide) rfl ?_
        dsimp only [List.set]
        refine dt_iinc dX12_bits_18 rfl (by decide) rfl ?_
        dsimp only [List.set]
        refine dt_goto (tgt := 4) dX12_bits_21 (by decide) ?_
        exact dt_lb (ih (k + 1) (by omega) (by omega)) ⟨rfl, (dt_ie rfl), rfl, trivial⟩
  exact dt_lb (lp4 9 0 (by omega) (by omega)) ⟨rfl, (dt_ie rfl), rfl, trivial⟩
/-- all before t of person p, all persons before p -/
def xDp (X : dX) (s p t : Nat) : Prop := ∀ q u, ((q < p ∧ u < X.1.length) ∨ (q = p ∧ u < t)) → xBtw X.2.1 u s q ≠ -1000000
theorem xDp_s {X : dX} {s p t : Nat} : xDp X s p (t + 1) ↔ xDp X s p t ∧ xBtw X.2.1 t s p ≠ -1000000 := by
  constructor
  · intro h
    exact ⟨fun q u z => h q u (by omega), h p t (by omega)⟩
  · rintro ⟨h1, h2⟩ q u z
    by_cases e : q = p ∧ u = t
    · rw [e.1, e.2]; exact h2
    · exact h1 q u (by omega)
theorem xDp_e {X : dX} {s p : Nat} : xDp X s p X.1.length ↔ xDp X s (p + 1) 0 := by
  constructor
  · intro h q u z
    exact h q u (by omega)
  · intro h q u z
    exact h q u (by omega)
theorem xDp_d {X : dX} {s : Nat} : xDp X s X.2.1.length 0 ↔ xDeal X s := by
  constructor
  · intro h t ht p hp z
    exact h p t (Or.inl ⟨hp, ht⟩) (xBtw_e.mpr z)
  · intro h q u z g
    rcases z with ⟨z1, z2⟩ | ⟨-, z2⟩
    · exact h u z2 q z1 (xBtw_e.mp g)
    · exact absurd z2 (Nat.not_lt_zero u)
theorem s_X12_isEnough {ex : List dt_Shp} {σ : dt_Mem} {X : dX} {s : Nat} (hX : rX σ X) (hs : s < 256) : dt_Sp mX12_isEnough 1 0 0 [dt_R 40, dt_I (s : Int)] (dt_SH ++ ex) σ (fun v sh2 σ2 => v = some (dt_I (dt_b (xDeal X s))) ∧ sh2 = dt_SH ++ ex ∧ σ2 = σ) := by
  refine dt_Sp_of (by decide) (Nat.le_of_ble_eq_true rfl) ?_
  refine dt_wfV fun hwf => ?_
  have hP := hX.2.ps
  have e0 := hX.t
  have e1 := hX.p
  have e2 := hX.2.1
  have e3 := hX.2.2.2.1
  show dt_V _ _ _ 0 0 0 [some (dt_R 40), some (dt_I (s : Int)), none, none, none] [] _ _
  refine dt_iconst dX12_isEnough_0 ?_
  refine dt_istoren dX12_isEnough_1 rfl (by decide) rfl ?_
  dsimp only [List.set]
  refine dt_iconst dX12_isEnough_2 ?_
  refine dt_istoren dX12_isEnough_3 rfl (by decide) rfl ?_
  dsimp only [List.set]
  have lp4 : ∀ (fu : Nat) (p : Nat), (X.2.1.length : Int) - p < (fu : Int) → (p ≤ X.2.1.length) →  dt_V mX12_isEnough (dt_rm 1 0 0) (dt_MC (fun v sh2 σ2 => v = some (dt_I (dt_b (xDeal X s))) ∧ sh2 = dt_SH ++ ex ∧ σ2 = σ) 0 0) 0 0 4 [some (dt_R 40), some (dt_I (s : Int)), some (dt_I (dt_b (xDp X s p 0))), some (dt_I (p : Int)), none] [] (dt_SH ++ ex) σ := by
    intro fu
    induction fu with
    | zero =>
      intro p hm hp
      exfalso
      omega
    | succ fu ih =>
      intro p hm hp
      refine dt_wfV fun hwf => ?_
      have ih0 := ih
      refine dt_iloadn dX12_isEnough_4 rfl rfl ?_
      refine dt_aloadn dX12_isEnough_5 rfl rfl ?_
      refine dt_getR dX12_isEnough_6 pg_X12_19_12 rfl rfl ?_
      refine dt_iconst dX12_isEnough_9 ?_
      refine dt_iald dX12_isEnough_10 rfl (by first | omega | (simp (disch := omega) only [dt_up_s, dt_up_k, dt_up_n]; omega)) (by first | omega | (simp (disch := omega) only [dt_up_s, dt_up_k, dt_up_n]; omega)) (by decide) ?_
      rw [show Int.toNat 1 = 1 from rfl, e1]
      refine dt_cm_ge (tgt := 63) dX12_isEnough_11 (by decide) (by first | assumption | exact hwf _ _ | exact dt_b32 _ | omega | exact ⟨by omega, by omega⟩ | decide | exact ⟨by simp (disch := omega) only [dt_up_s, dt_up_k, dt_up_n]; omega, by simp (disch := omega) only [dt_up_s, dt_up_k, dt_up_n]; omega⟩) (by first | assumption | exact hwf _ _ | exact dt_b32 _ | omega | exact ⟨by omega, by omega⟩ | decide | exact ⟨by simp (disch := omega) only [dt_up_s, dt_up_k, dt_up_n]; omega, by simp (disch := omega) only [dt_up_s, dt_up_k, dt_up_n]; omega⟩) (fun c1 => ?_) (fun c1 => ?_)
      · skip
        refine dt_iloadn dX12_isEnough_63 rfl rfl ?_
        refine dt_zret dX12_isEnough_64 rfl (by decide) (by decide) (dt_b01 _) ?_
        rw [show p = X.2.1.length by omega]
        exact ⟨dt_vb xDp_d, rfl, rfl⟩
      · skip
        refine dt_iconst dX12_isEnough_14 ?_
        refine dt_istore dX12_isEnough_15 (by decide) rfl ?_
        dsimp only [List.set]
        have lp17 : ∀ (fu : Nat) (t : Nat), (X.1.length : Int) - t < (fu : Int) → (t ≤ X.1.length) →  dt_V mX12_isEnough (dt_rm 1 0 0) (dt_MC (fun v sh2 σ2 => v = some (dt_I (dt_b (xDeal X s))) ∧ sh2 = dt_SH ++ ex ∧ σ2 = σ) 0 0) 0 0 17 [some (dt_R 40), some (dt_I (s : Int)), some (dt_I (dt_b (xDp X s p t))), some (dt_I (p : Int)), some (dt_I (t : Int))] [] (dt_SH ++ ex) σ := by
          intro fu
          induction fu with
          | zero =>
            intro t hm ht
            exfalso
            omega
          | succ fu ih =>
            intro t hm ht
            refine dt_wfV fun hwf => ?_
            refine dt_iload dX12_isEnough_17 rfl ?_
            refine dt_aloadn dX12_isEnough_19 rfl rfl ?_
            refine dt_getR dX12_isEnough_20 pg_X12_19_12 rfl rfl ?_
            refine dt_iconst dX12_isEnough_23 ?_
            refine dt_iald dX12_isEnough_24 rfl (by first | omega | (simp (disch := omega) only [dt_up_s, dt_up_k, dt_up_n]; omega)) (by first | omega | (simp (disch := omega) only [dt_up_s, dt_up_k, dt_up_n]; omega)) (by decide) ?_
            rw [show Int.toNat 0 = 0 from rfl, e0]
            refine dt_cm_ge (tgt := 57) dX12_isEnough_25 (by decide) (by first | assumption | exact hwf _ _ | exact dt_b32 _ | omega | exact ⟨by omega, by omega⟩ | decide | exact ⟨by simp (disch := omega) only [dt_up_s, dt_up_k, dt_up_n]; omega, by simp (disch := omega) only [dt_up_s, dt_up_k, dt_up_n]; omega⟩) (by first | assumption | exact hwf _ _ | exact dt_b32 _ | omega | exact ⟨by omega, by omega⟩ | decide | exact ⟨by simp (disch := omega) only [dt_up_s, dt_up_k, dt_up_n]; omega, by simp (disch := omega) only [dt_up_s, dt_up_k, dt_up_n]; omega⟩) (fun c2 => ?_) (fun c2 => ?_)
            · skip
              have hte : t = X.1.length := by omega
              refine dt_iinc dX12_isEnough_57 rfl (by decide) rfl ?_
              dsimp only [List.set]
              refine dt_goto (tgt := 4) dX12_isEnough_60 (by decide) ?_
              exact dt_lb (ih0 (p + 1) (by omega) (by omega)) ⟨rfl, rfl, (dt_ie (by rw [hte]; exact dt_bc xDp_e)), rfl, trivial⟩
            · skip
              obtain ⟨kn, hkn⟩ := dt_lg (l := X.2.1) (i := p) (by omega)
              refine dt_iloadn dX12_isEnough_28 rfl rfl ?_
              refine dt_if_eq (tgt := 49) dX12_isEnough_29 (by decide) (by first | assumption | exact hwf _ _ | exact dt_b32 _ | omega | exact ⟨by omega, by omega⟩ | decide | exact ⟨by simp (disch := omega) only [dt_up_s, dt_up_k, dt_up_n]; omega, by simp (disch := omega) only [dt_up_s, dt_up_k, dt_up_n]; omega⟩) (fun c3 => ?_) (fun c3 => ?_)
              · skip
                try simp only [dt_b0, dt_b1, Decidable.not_not, Classical.not_not] at c3
                have hno : ¬ xDp X s p (t + 1) := fun z => (show ¬ xDp X s p t by assumption) (xDp_s.mp z).1
                refine dt_iconst dX12_isEnough_49 ?_
                refine dt_istoren dX12_isEnough_50 rfl (by decide) rfl ?_
                dsimp only [List.set]
                refine dt_iinc dX12_isEnough_51 rfl (by decide) rfl ?_
                dsimp only [List.set]
                refine dt_goto (tgt := 17) dX12_isEnough_54 (by decide) ?_
                exact dt_lb (ih (t + 1) (by omega) (by omega)) ⟨rfl, rfl, (dt_ie (by first | exact (dt_bT hye).symm | exact (dt_bF hno).symm)), rfl, rfl, trivial⟩
              · skip
                try simp only [dt_b0, dt_b1, Decidable.not_not, Classical.not_not] at c3
                have hyd : xDp X s p t := by assumption
                refine dt_aloadn dX12_isEnough_32 rfl rfl ?_
                refine dt_iload dX12_isEnough_33 rfl ?_
                refine dt_iloadn dX12_isEnough_35 rfl rfl ?_
                refine dt_iloadn dX12_isEnough_36 rfl rfl ?_
                refine dt_xV dX12_isEnough_37 pc_X12_291 rfl (s_X12_between hX (by omega) hs hkn) rfl rfl ⟨by decide, by decide⟩ rfl rfl (Nat.le_of_ble_eq_true rfl) ⟨by decide, by decide⟩ (dt_k3 ?_)
                refine dt_ldc dX12_isEnough_40 pk_X12_89 ?_
                have hbt := xBt_in (Ps := X.2.1) (t := t) (s := s) (p := p) 9 0 (by decide)
                have hbt2 : -1000000 ≤ xBtw X.2.1 t s p ∧ xBtw X.2.1 t s p ≤ 100 := hbt
                refine dt_cm_eq (tgt := 49) dX12_isEnough_42 (by decide) (by first | assumption | exact hwf _ _ | exact dt_b32 _ | omega | exact ⟨by omega, by omega⟩ | decide | exact ⟨by simp (disch := omega) only [dt_up_s, dt_up_k, dt_up_n]; omega, by simp (disch := omega) only [dt_up_s, dt_up_k, dt_up_n]; omega⟩) (by first | assumption | exact hwf _ _ | exact dt_b32 _ | omega | exact ⟨by omega, by omega⟩ | decide | exact ⟨by simp (disch := omega) only [dt_up_s, dt_up_k, dt_up_n]; omega, by simp (disch := omega) only [dt_up_s, dt_up_k, dt_up_n]; omega⟩) (fun c4 => ?_) (fun c4 => ?_)
                · skip
                  have hno : ¬ xDp X s p (t + 1) := fun z => (xDp_s.mp z).2 (by omega)
                  refine dt_iconst dX12_isEnough_49 ?_
                  refine dt_istoren dX12_isEnough_50 rfl (by decide) rfl ?_
                  dsimp only [List.set]
                  refine dt_iinc dX12_isEnough_51 rfl (by decide) rfl ?_
                  dsimp only [List.set]
                  refine dt_goto (tgt := 17) dX12_isEnough_54 (by decide) ?_
                  exact dt_lb (ih (t + 1) (by omega) (by omega)) ⟨rfl, rfl, (dt_ie (by first | exact (dt_bT hye).symm | exact (dt_bF hno).symm)), rfl, rfl, trivial⟩
                · skip
                  have hye : xDp X s p (t + 1) := xDp_s.mpr ⟨hyd, by omega⟩
                  refine dt_iconst dX12_isEnough_45 ?_
                  refine dt_goto (tgt := 50) dX12_isEnough_46 (by decide) ?_
                  refine dt_istoren dX12_isEnough_50 rfl (by decide) rfl ?_
                  dsimp only [List.set]
                  refine dt_iinc dX12_isEnough_51 rfl (by decide) rfl ?_
                  dsimp only [List.set]
                  refine dt_goto (tgt := 17) dX12_isEnough_54 (by decide) ?_
                  exact dt_lb (ih (t + 1) (by omega) (by omega)) ⟨rfl, rfl, (dt_ie (by first | exact (dt_bT hye).symm | exact (dt_bF hno).symm)), rfl, rfl, trivial⟩
        exact dt_lb (lp17 9 0 (by omega) (by omega)) ⟨rfl, rfl, rfl, rfl, rfl, trivial⟩
  exact dt_lb (lp4 9 0 (by omega) (by omega)) ⟨rfl, rfl, (dt_ie (dt_bT (fun q u z => by omega)).symm), rfl, trivial⟩
theorem s_X12_understands {ex : List dt_Shp} {σ : dt_Mem} {A : dS} {day p s : Int} (hI : rInv σ A) (h_day : dt_in32 day) (h_p : dt_in32 p) (h_s : dt_in32 s) (hok : dX_ok (sN A)) (hnx : nX (sN A)) : dt_Sp mX12_understands 2 0 0 [dt_R 40, dt_I day, dt_I p, dt_I s] (dt_SH ++ ex) σ (fun v sh2 σ2 => v = some (dt_I (oUnder A day p s).1) ∧ sh2 = dt_SH ++ ex ∧ rEnd σ σ2 (oUnder A day p s).2) := by
  refine dt_Sp_of (by decide) (Nat.le_of_ble_eq_true rfl) ?_
  refine dt_wfV fun hwf => ?_
  show dt_V _ _ _ 0 0 0 [some (dt_R 40), some (dt_I day), some (dt_I p), some (dt_I s)] [] _ _
  refine dt_aloadn dX12_understands_0 rfl rfl ?_
  refine dt_iconst dX12_understands_1 ?_
  refine dt_wfV fun hwf => ?_
  refine dt_putI dX12_understands_2 pw_X12_53_12 rfl rfl (by first | assumption | exact hwf _ _ | exact dt_b32 _ | omega | exact ⟨by omega, by omega⟩ | decide | exact ⟨by simp (disch := omega) only [dt_up_s, dt_up_k, dt_up_n]; omega, by simp (disch := omega) only [dt_up_s, dt_up_k, dt_up_n]; omega⟩) ?_
  obtain ⟨σa, ea⟩ : ∃ z, z = dt_up σ 40 0 0 := ⟨_, rfl⟩
  rw [← ea]
  have hA := hI.up40 0 0 (by decide)
  rw [← ea] at hA
  have fa : ∀ b, (b < 40 ∨ 55 ≤ b) → σa b = σ b := fun b hb => by rw [ea]; exact dt_up_o (by omega)
  clear ea
  refine dt_wfV fun hwf => ?_
  have hX := hA.X hok
  have e0 := hX.t
  have e2 := hX.2.1
  have e7 := hA.2.2.1.2
  refine dt_iloadn dX12_understands_5 rfl rfl ?_
  refine dt_xS dX12_understands_6 pc_X12_223 (s_X12_isDay (by first | assumption | exact hwf _ _ | exact dt_b32 _ | omega | exact ⟨by omega, by omega⟩ | decide | exact ⟨by simp (disch := omega) only [dt_up_s, dt_up_k, dt_up_n]; omega, by simp (disch := omega) only [dt_up_s, dt_up_k, dt_up_n]; omega⟩)) rfl rfl ⟨by decide, by decide⟩ (Nat.le_of_ble_eq_true rfl) ⟨by decide, by decide⟩ (dt_k3 ?_)
  refine dt_if_eq (tgt := 46) dX12_understands_9 (by decide) (by first | assumption | exact hwf _ _ | exact dt_b32 _ | omega | exact ⟨by omega, by omega⟩ | decide | exact ⟨by simp (disch := omega) only [dt_up_s, dt_up_k, dt_up_n]; omega, by simp (disch := omega) only [dt_up_s, dt_up_k, dt_up_n]; omega⟩) (fun c1 => ?_) (fun c1 => ?_)
  · skip
    try simp only [dt_b0, dt_b1, Decidable.not_not, Classical.not_not] at c1
    refine dt_ldc dX12_understands_46 pk_X12_73 ?_
    refine dt_iret dX12_understands_48 rfl (by decide) (by decide) ?_
    have e : oUnder A day p s = (-1000001, A) := by
      unfold oUnder
      rw [if_neg (by omega)]
    rw [e]
    exact ⟨rfl, rfl, hA, fa⟩
  · skip
    try simp only [dt_b0, dt_b1, Decidable.not_not, Classical.not_not] at c1
    refine dt_aloadn dX12_understands_12 rfl rfl ?_
    refine dt_iloadn dX12_understands_13 rfl rfl ?_
    refine dt_xV dX12_understands_14 pc_X12_218 rfl (s_X12_isOne hX (by first | assumption | exact hwf _ _ | exact dt_b32 _ | omega | exact ⟨by omega, by omega⟩ | decide | exact ⟨by simp (disch := omega) only [dt_up_s, dt_up_k, dt_up_n]; omega, by simp (disch := omega) only [dt_up_s, dt_up_k, dt_up_n]; omega⟩)) rfl rfl ⟨by decide, by decide⟩ rfl rfl (Nat.le_of_ble_eq_true rfl) ⟨by decide, by decide⟩ (dt_k3 ?_)
    refine dt_if_eq (tgt := 46) dX12_understands_17 (by decide) (by first | assumption | exact hwf _ _ | exact dt_b32 _ | omega | exact ⟨by omega, by omega⟩ | decide | exact ⟨by simp (disch := omega) only [dt_up_s, dt_up_k, dt_up_n]; omega, by simp (disch := omega) only [dt_up_s, dt_up_k, dt_up_n]; omega⟩) (fun c2 => ?_) (fun c2 => ?_)
    · skip
      try simp only [dt_b0, dt_b1, Decidable.not_not, Classical.not_not] at c2
      refine dt_ldc dX12_understands_46 pk_X12_73 ?_
      refine dt_iret dX12_understands_48 rfl (by decide) (by decide) ?_
      have e : oUnder A day p s = (-1000001, A) := by
        unfold oUnder
        rw [if_neg (by omega)]
      rw [e]
      exact ⟨rfl, rfl, hA, fa⟩
    · skip
      try simp only [dt_b0, dt_b1, Decidable.not_not, Classical.not_not] at c2
      refine dt_iloadn dX12_understands_20 rfl rfl ?_
      refine dt_ui2l dX12_understands_21 (by first | assumption | exact hwf _ _ | exact dt_b32 _ | omega | exact ⟨by omega, by omega⟩ | decide | exact ⟨by simp (disch := omega) only [dt_up_s, dt_up_k, dt_up_n]; omega, by simp (disch := omega) only [dt_up_s, dt_up_k, dt_up_n]; omega⟩) ?_
      refine dt_lconst (x := 0) dX12_understands_22 (by decide) ?_
      refine dt_ldc2 dX12_understands_23 pk_X12_84 ?_
      refine dt_xS dX12_understands_26 pc_X12_63 (s_X12_in (by first | exact ⟨by omega, by omega⟩ | decide) (by first | exact ⟨by omega, by omega⟩ | decide) (by first | exact ⟨by omega, by omega⟩ | decide)) rfl rfl ⟨by decide, by decide⟩ (Nat.le_of_ble_eq_true rfl) ⟨by decide, by decide⟩ (dt_k3 ?_)
      refine dt_if_eq (tgt := 46) dX12_understands_29 (by decide) (by first | assumption | exact hwf _ _ | exact dt_b32 _ | omega | exact ⟨by omega, by omega⟩ | decide | exact ⟨by simp (disch := omega) only [dt_up_s, dt_up_k, dt_up_n]; omega, by simp (disch := omega) only [dt_up_s, dt_up_k, dt_up_n]; omega⟩) (fun c3 => ?_) (fun c3 => ?_)
      · skip
        try simp only [dt_b0, dt_b1, Decidable.not_not, Classical.not_not] at c3
        refine dt_ldc dX12_understands_46 pk_X12_73 ?_
        refine dt_iret dX12_understands_48 rfl (by decide) (by decide) ?_
        have e : oUnder A day p s = (-1000001, A) := by
          unfold oUnder
          rw [if_neg (by omega)]
        rw [e]
        exact ⟨rfl, rfl, hA, fa⟩
      · skip
        try simp only [dt_b0, dt_b1, Decidable.not_not, Classical.not_not] at c3
        have e1 := hX.p
        have hpp : p < (sN A).2.1.length := by omega
        have h0 : 0 < (sN A).1.length := by
          rcases Nat.eq_zero_or_pos (sN A).1.length with z | z
          · exfalso
            have z2 := hnx (dt_nn.mp z)
            have z3 : (sN A).2.1 = [] := by rw [z2]
            rw [z3] at hpp
            have z4 : (([] : List Nat).length : Int) = 0 := rfl
            omega
          · exact z
        refine dt_aloadn dX12_understands_32 rfl rfl ?_
        refine dt_aloadn dX12_understands_33 rfl rfl ?_
        refine dt_iloadn dX12_understands_34 rfl rfl ?_
        refine dt_xV dX12_understands_35 pc_X12_231 rfl (s_X12_tongueOf hX (by omega) (by omega) (by omega)) rfl rfl ⟨by decide, by decide⟩ rfl rfl (Nat.le_of_ble_eq_true rfl) ⟨by decide, by decide⟩ (dt_k3 ?_)
        obtain ⟨t, ht⟩ : ∃ t : Nat, day % ((sN A).1.length : Int) = t := ⟨(day % ((sN A).1.length : Int)).toNat, by have := Int.emod_nonneg day (b := ((sN A).1.length : Int)) (by omega); omega⟩
        have ht7 : t < (sN A).1.length := by have := Int.emod_lt_of_pos day (b := ((sN A).1.length : Int)) (by omega); omega
        rw [ht]
        obtain ⟨p, rfl⟩ : ∃ z : Nat, p = z := ⟨p.toNat, by omega⟩
        obtain ⟨s, rfl⟩ : ∃ z : Nat, s = z := ⟨s.toNat, by omega⟩
        obtain ⟨kn, hkn⟩ := dt_lg (l := (sN A).2.1) (i := p) (by omega)
        refine dt_iloadn dX12_understands_38 rfl rfl ?_
        refine dt_iloadn dX12_understands_39 rfl rfl ?_
        refine dt_xV dX12_understands_40 pc_X12_291 rfl (s_X12_between hX (by omega) (by omega) hkn) rfl rfl ⟨by decide, by decide⟩ rfl rfl (Nat.le_of_ble_eq_true rfl) ⟨by decide, by decide⟩ (dt_k3 ?_)
        refine dt_goto (tgt := 48) dX12_understands_43 (by decide) ?_
        refine dt_iret dX12_understands_48 rfl (by decide) (by decide) ?_
        rw [show oUnder A day p s = (xBtw (sN A).2.1 t s p, A) from by unfold oUnder; rw [if_pos (by omega), ht, Int.toNat_natCast, Int.toNat_natCast, Int.toNat_natCast]]
        exact ⟨rfl, rfl, hA, fa⟩
theorem s_X12_week {ex : List dt_Shp} {σ : dt_Mem} {A : dS} {what : Int} (hI : rInv σ A) (h_what : dt_in32 what) (hok : dX_ok (sN A)) : dt_Sp mX12_week 3 0 0 [dt_R 40, dt_I what] (dt_SH ++ ex) σ (fun v sh2 σ2 => v = some (dt_I (oWeek A what).1) ∧ sh2 = dt_SH ++ ex ∧ rEnd σ σ2 (oWeek A what).2) := by
  refine dt_Sp_of (by decide) (Nat.le_of_ble_eq_true rfl) ?_
  refine dt_wfV fun hwf => ?_
  show dt_V _ _ _ 0 0 0 [some (dt_R 40), some (dt_I what), none, none] [] _ _
  refine dt_aloadn dX12_week_0 rfl rfl ?_
  refine dt_iconst dX12_week_1 ?_
  refine dt_wfV fun hwf => ?_
  refine dt_putI dX12_week_2 pw_X12_53_12 rfl rfl (by first | assumption | exact hwf _ _ | exact dt_b32 _ | omega | exact ⟨by omega, by omega⟩ | decide | exact ⟨by simp (disch := omega) only [dt_up_s, dt_up_k, dt_up_n]; omega, by simp (disch := omega) only [dt_up_s, dt_up_k, dt_up_n]; omega⟩) ?_
  obtain ⟨σa, ea⟩ : ∃ z, z = dt_up σ 40 0 0 := ⟨_, rfl⟩
  rw [← ea]
  have hA := hI.up40 0 0 (by decide)
  rw [← ea] at hA
  have fa : ∀ b, (b < 40 ∨ 55 ≤ b) → σa b = σ b := fun b hb => by rw [ea]; exact dt_up_o (by omega)
  clear ea
  refine dt_wfV fun hwf => ?_
  have hX := hA.X hok
  have e0 := hX.t
  have e2 := hX.2.1
  have e7 := hA.2.2.1.2
  refine dt_aloadn dX12_week_5 rfl rfl ?_
  refine dt_getI dX12_week_6 pg_X12_179_12 rfl rfl ?_
  refine dt_if_ne (tgt := 15) dX12_week_9 (by decide) (by first | assumption | exact hwf _ _ | exact dt_b32 _ | omega | exact ⟨by omega, by omega⟩ | decide | exact ⟨by simp (disch := omega) only [dt_up_s, dt_up_k, dt_up_n]; omega, by simp (disch := omega) only [dt_up_s, dt_up_k, dt_up_n]; omega⟩) (fun c1 => ?_) (fun c1 => ?_)
  · skip
    rw [e7] at c1
    have hn : ¬ (sN A).1 = [] := by simpa [dt_b0] using c1
    have hn0 : 0 < (sN A).1.length := Nat.pos_of_ne_zero (fun q => hn (dt_nn.mp q))
    refine dt_iloadn dX12_week_15 rfl rfl ?_
    refine dt_ui2l dX12_week_16 (by first | assumption | exact hwf _ _ | exact dt_b32 _ | omega | exact ⟨by omega, by omega⟩ | decide | exact ⟨by simp (disch := omega) only [dt_up_s, dt_up_k, dt_up_n]; omega, by simp (disch := omega) only [dt_up_s, dt_up_k, dt_up_n]; omega⟩) ?_
    refine dt_lconst (x := 0) dX12_week_17 (by decide) ?_
    refine dt_lconst (x := 1) dX12_week_18 (by decide) ?_
    refine dt_xS dX12_week_19 pc_X12_63 (s_X12_in (by first | exact ⟨by omega, by omega⟩ | decide) (by first | exact ⟨by omega, by omega⟩ | decide) (by first | exact ⟨by omega, by omega⟩ | decide)) rfl rfl ⟨by decide, by decide⟩ (Nat.le_of_ble_eq_true rfl) ⟨by decide, by decide⟩ (dt_k3 ?_)
    refine dt_if_ne (tgt := 28) dX12_week_22 (by decide) (by first | assumption | exact hwf _ _ | exact dt_b32 _ | omega | exact ⟨by omega, by omega⟩ | decide | exact ⟨by simp (disch := omega) only [dt_up_s, dt_up_k, dt_up_n]; omega, by simp (disch := omega) only [dt_up_s, dt_up_k, dt_up_n]; omega⟩) (fun c2 => ?_) (fun c2 => ?_)
    · skip
      try simp only [dt_b0, dt_b1, Decidable.not_not, Classical.not_not] at c2
      have e1 := hX.p
      have hp8 := pow8 hX.2.2.2.1
      obtain ⟨P2, hP2⟩ : ∃ z, z = 2 ^ (sN A).2.1.length := ⟨_, rfl⟩
      rw [← hP2] at hp8
      refine dt_ldc dX12_week_28 pk_X12_89 ?_
      refine dt_istoren dX12_week_30 rfl (by decide) rfl ?_
      dsimp only [List.set]
      refine dt_iconst dX12_week_31 ?_
      refine dt_istoren dX12_week_32 rfl (by decide) rfl ?_
      dsimp only [List.set]
      have lp33 : ∀ (fu : Nat) (s : Nat), (P2 : Int) - s < (fu : Int) → (s ≤ P2) →  dt_V mX12_week (dt_rm 3 0 0) (dt_MC (fun v sh2 σ2 => v = some (dt_I (oWeek A what).1) ∧ sh2 = dt_SH ++ ex ∧ rEnd σ σ2 (oWeek A what).2) 0 0) 0 0 33 [some (dt_R 40), some (dt_I what), some (dt_I (xOp (xWk (sN A) s))), some (dt_I (s : Int))] [] (dt_SH ++ ex) σa := by
        intro fu
        induction fu with
        | zero =>
          intro s hm hl
          exfalso
          omega
        | succ fu ih =>
          intro s hm hl
          refine dt_wfV fun hwf => ?_
          have hps := dt_pop_le s
          have hx32 : -1000000 ≤ xOp (xWk (sN A) s) ∧ xOp (xWk (sN A) s) ≤ 256 := by
            cases e : xWk (sN A) s with
            | none => exact ⟨(by decide : (-1000000 : Int) ≤ -1000000), (by decide : (-1000000 : Int) ≤ 256)⟩
            | some b => have := xWk_lt s b e; exact ⟨by show -1000000 ≤ (b : Int); omega, by show (b : Int) ≤ 256; omega⟩
          refine dt_iloadn dX12_week_33 rfl rfl ?_
          refine dt_iconst dX12_week_34 ?_
          refine dt_aloadn dX12_week_35 rfl rfl ?_
          refine dt_getR dX12_week_36 pg_X12_19_12 rfl rfl ?_
          refine dt_iconst dX12_week_39 ?_
          refine dt_iald dX12_week_40 rfl (by first | omega | (simp (disch := omega) only [dt_up_s, dt_up_k, dt_up_n]; omega)) (by first | omega | (simp (disch := omega) only [dt_up_s, dt_up_k, dt_up_n]; omega)) (by decide) ?_
          rw [show Int.toNat 1 = 1 from rfl, e1]
          refine dt_ishl dX12_week_41 ?_
          have hPi : ((2 ^ (sN A).2.1.length : Nat) : Int) = (P2 : Int) := by rw [hP2]
          rw [dj_shl1 (by have := hX.2.2.2.1; omega), hPi]
          refine dt_cm_ge (tgt := 82) dX12_week_42 (by decide) (by first | assumption | exact hwf _ _ | exact dt_b32 _ | omega | exact ⟨by omega, by omega⟩ | decide | exact ⟨by simp (disch := omega) only [dt_up_s, dt_up_k, dt_up_n]; omega, by simp (disch := omega) only [dt_up_s, dt_up_k, dt_up_n]; omega⟩) (by first | assumption | exact hwf _ _ | exact dt_b32 _ | omega | exact ⟨by omega, by omega⟩ | decide | exact ⟨by simp (disch := omega) only [dt_up_s, dt_up_k, dt_up_n]; omega, by simp (disch := omega) only [dt_up_s, dt_up_k, dt_up_n]; omega⟩) (fun c3 => ?_) (fun c3 => ?_)
          · skip
            have hse : s = P2 := by omega
            have hw : xWk (sN A) (2 ^ (sN A).2.1.length) = xWk (sN A) s := by rw [← hP2, hse]
            obtain ⟨o, ho⟩ : ∃ z, xWk (sN A) s = z := ⟨_, rfl⟩
            have hlt := xWk_lt (X := sN A) s
            rw [ho] at hw hlt ⊢
            have ho32 : -1000000 ≤ xOp o ∧ xOp o ≤ 256 := by
              cases o with
              | none => exact ⟨(by decide : (-1000000 : Int) ≤ -1000000), (by decide : (-1000000 : Int) ≤ 256)⟩
              | some b => have := hlt b rfl; exact ⟨by show -1000000 ≤ (b : Int); omega, by show (b : Int) ≤ 256; omega⟩
            refine dt_iloadn dX12_week_82 rfl rfl ?_
            refine dt_ldc dX12_week_83 pk_X12_89 ?_
            refine dt_cm_eq (tgt := 93) dX12_week_85 (by decide) (by first | assumption | exact hwf _ _ | exact dt_b32 _ | omega | exact ⟨by omega, by omega⟩ | decide | exact ⟨by simp (disch := omega) only [dt_up_s, dt_up_k, dt_up_n]; omega, by simp (disch := omega) only [dt_up_s, dt_up_k, dt_up_n]; omega⟩) (by first | assumption | exact hwf _ _ | exact dt_b32 _ | omega | exact ⟨by omega, by omega⟩ | decide | exact ⟨by simp (disch := omega) only [dt_up_s, dt_up_k, dt_up_n]; omega, by simp (disch := omega) only [dt_up_s, dt_up_k, dt_up_n]; omega⟩) (fun c4 => ?_) (fun c4 => ?_)
            · skip
              refine dt_iloadn dX12_week_93 rfl rfl ?_
              refine dt_goto (tgt := 101) dX12_week_94 (by decide) ?_
              refine dt_iret dX12_week_101 rfl (by decide) (by decide) ?_
              first
              | (have e : oWeek A what = (-1000000, A) := by
                   unfold oWeek
                   rw [if_neg hn, if_neg (by omega)]
                   cases o with
                   | none => simp only [hw]
                   | some b => exfalso; have z : xOp (some b) = -1000000 := by assumption
                               have z : (b : Int) = -1000000 := z
                               omega
                 rw [e, show xOp o = -1000000 by assumption]
                 exact ⟨rfl, rfl, hA, fa⟩)
              | (have e : oWeek A what = (((dt_pop b : Nat) : Int), A) := by
                   unfold oWeek
                   rw [if_neg hn, if_neg (by omega)]
                   simp only [hw]
                   rw [if_neg (by assumption)]
                 rw [e]
                 exact ⟨rfl, rfl, hA, fa⟩)
              | (cases o with
                 | none => exact absurd rfl (by assumption)
                 | some b =>
                   have e : oWeek A what = ((b : Int), A) := by
                     unfold oWeek
                     rw [if_neg hn, if_neg (by omega)]
                     simp only [hw]
                     rw [if_pos (by assumption)]
                   rw [e]
                   exact ⟨rfl, rfl, hA, fa⟩)
            · skip
              refine dt_iloadn dX12_week_88 rfl rfl ?_
              refine dt_iconst dX12_week_89 ?_
              refine dt_cm_ne (tgt := 97) dX12_week_90 (by decide) (by first | assumption | exact hwf _ _ | exact dt_b32 _ | omega | exact ⟨by omega, by omega⟩ | decide | exact ⟨by simp (disch := omega) only [dt_up_s, dt_up_k, dt_up_n]; omega, by simp (disch := omega) only [dt_up_s, dt_up_k, dt_up_n]; omega⟩) (by first | assumption | exact hwf _ _ | exact dt_b32 _ | omega | exact ⟨by omega, by omega⟩ | decide | exact ⟨by simp (disch := omega) only [dt_up_s, dt_up_k, dt_up_n]; omega, by simp (disch := omega) only [dt_up_s, dt_up_k, dt_up_n]; omega⟩) (fun c5 => ?_) (fun c5 => ?_)
              · skip
                refine dt_iloadn dX12_week_97 rfl rfl ?_
                obtain ⟨b, rfl⟩ : ∃ b, o = some b := by
                  cases o with
                  | none => exact absurd rfl (by assumption)
                  | some b => exact ⟨b, rfl⟩
                have hb8 := hlt b rfl
                rw [show xOp (some b) = (b : Int) from rfl]
                refine dt_xS dX12_week_98 pc_X12_294 (s_X12_bits (by omega)) rfl rfl ⟨by decide, by decide⟩ (Nat.le_of_ble_eq_true rfl) ⟨by decide, by decide⟩ (dt_k3 ?_)
                refine dt_iret dX12_week_101 rfl (by decide) (by decide) ?_
                first
                | (have e : oWeek A what = (-1000000, A) := by
                     unfold oWeek
                     rw [if_neg hn, if_neg (by omega)]
                     cases o with
                     | none => simp only [hw]
                     | some b => exfalso; have z : xOp (some b) = -1000000 := by assumption
                                 have z : (b : Int) = -1000000 := z
                                 omega
                   rw [e, show xOp o = -1000000 by assumption]
                   exact ⟨rfl, rfl, hA, fa⟩)
                | (have e : oWeek A what = (((dt_pop b : Nat) : Int), A) := by
                     unfold oWeek
                     rw [if_neg hn, if_neg (by omega)]
                     simp only [hw]
                     rw [if_neg (by assumption)]
                   rw [e]
                   exact ⟨rfl, rfl, hA, fa⟩)
                | (cases o with
                   | none => exact absurd rfl (by assumption)
                   | some b =>
                     have e : oWeek A what = ((b : Int), A) := by
                       unfold oWeek
                       rw [if_neg hn, if_neg (by omega)]
                       simp only [hw]
                       rw [if_pos (by assumption)]
                     rw [e]
                     exact ⟨rfl, rfl, hA, fa⟩)
              · skip
                refine dt_iloadn dX12_week_93 rfl rfl ?_
                refine dt_goto (tgt := 101) dX12_week_94 (by decide) ?_
                refine dt_iret dX12_week_101 rfl (by decide) (by decide) ?_
                first
                | (have e : oWeek A what = (-1000000, A) := by
                     unfold oWeek
                     rw [if_neg hn, if_neg (by omega)]
                     cases o with
                     | none => simp only [hw]
                     | some b => exfalso; have z : xOp (some b) = -1000000 := by assumption
                                 have z : (b : Int) = -1000000 := z
                                 omega
                   rw [e, show xOp o = -1000000 by assumption]
                   exact ⟨rfl, rfl, hA, fa⟩)
                | (have e : oWeek A what = (((dt_pop b : Nat) : Int), A) := by
                     unfold oWeek
                     rw [if_neg hn, if_neg (by omega)]
                     simp only [hw]
                     rw [if_neg (by assumption)]
                   rw [e]
                   exact ⟨rfl, rfl, hA, fa⟩)
                | (cases o with
                   | none => exact absurd rfl (by assumption)
                   | some b =>
                     have e : oWeek A what = ((b : Int), A) := by
                       unfold oWeek
                       rw [if_neg hn, if_neg (by omega)]
                       simp only [hw]
                       rw [if_pos (by assumption)]
                     rw [e]
                     exact ⟨rfl, rfl, hA, fa⟩)
          · skip
            have hs8 : s < 256 := by omega
            refine dt_iloadn dX12_week_45 rfl rfl ?_
            refine dt_ldc dX12_week_46 pk_X12_89 ?_
            refine dt_cm_eq (tgt := 62) dX12_week_48 (by decide) (by first | assumption | exact hwf _ _ | exact dt_b32 _ | omega | exact ⟨by omega, by omega⟩ | decide | exact ⟨by simp (disch := omega) only [dt_up_s, dt_up_k, dt_up_n]; omega, by simp (disch := omega) only [dt_up_s, dt_up_k, dt_up_n]; omega⟩) (by first | assumption | exact hwf _ _ | exact dt_b32 _ | omega | exact ⟨by omega, by omega⟩ | decide | exact ⟨by simp (disch := omega) only [dt_up_s, dt_up_k, dt_up_n]; omega, by simp (disch := omega) only [dt_up_s, dt_up_k, dt_up_n]; omega⟩) (fun c6 => ?_) (fun c6 => ?_)
            · skip
              have hlt : ∀ b, xWk (sN A) s = some b → dt_pop s < dt_pop b := fun b e => by
                have z : xOp (xWk (sN A) s) = -1000000 := by assumption
                rw [e] at z
                have z : (b : Int) = -1000000 := z
                omega
              refine dt_aloadn dX12_week_62 rfl rfl ?_
              refine dt_iloadn dX12_week_63 rfl rfl ?_
              refine dt_xV dX12_week_64 pc_X12_297 rfl (s_X12_isEnough hX hs8) rfl rfl ⟨by decide, by decide⟩ rfl rfl (Nat.le_of_ble_eq_true rfl) ⟨by decide, by decide⟩ (dt_k3 ?_)
              refine dt_if_eq (tgt := 74) dX12_week_67 (by decide) (by first | assumption | exact hwf _ _ | exact dt_b32 _ | omega | exact ⟨by omega, by omega⟩ | decide | exact ⟨by simp (disch := omega) only [dt_up_s, dt_up_k, dt_up_n]; omega, by simp (disch := omega) only [dt_up_s, dt_up_k, dt_up_n]; omega⟩) (fun c7 => ?_) (fun c7 => ?_)
              · skip
                try simp only [dt_b0, dt_b1, Decidable.not_not, Classical.not_not] at c7
                have hno : ¬ ((∀ b, xWk (sN A) s = some b → dt_pop s < dt_pop b) ∧ xDeal (sN A) s) := fun z => absurd z.2 (by assumption)
                refine dt_iloadn dX12_week_74 rfl rfl ?_
                refine dt_istoren dX12_week_75 rfl (by decide) rfl ?_
                dsimp only [List.set]
                refine dt_iinc dX12_week_76 rfl (by decide) rfl ?_
                dsimp only [List.set]
                refine dt_goto (tgt := 33) dX12_week_79 (by decide) ?_
                have hL := xWk_n hno
                exact dt_lb (ih (s + 1) (by omega) (by omega)) ⟨rfl, rfl, (dt_ie (by rw [hL]; first | done | rfl | exact hxb.symm)), rfl, trivial⟩
              · skip
                try simp only [dt_b0, dt_b1, Decidable.not_not, Classical.not_not] at c7
                have hye : (∀ b, xWk (sN A) s = some b → dt_pop s < dt_pop b) ∧ xDeal (sN A) s := ⟨hlt, by assumption⟩
                refine dt_iloadn dX12_week_70 rfl rfl ?_
                refine dt_goto (tgt := 75) dX12_week_71 (by decide) ?_
                refine dt_istoren dX12_week_75 rfl (by decide) rfl ?_
                dsimp only [List.set]
                refine dt_iinc dX12_week_76 rfl (by decide) rfl ?_
                dsimp only [List.set]
                refine dt_goto (tgt := 33) dX12_week_79 (by decide) ?_
                have hL := xWk_y hye
                exact dt_lb (ih (s + 1) (by omega) (by omega)) ⟨rfl, rfl, (dt_ie (by rw [hL]; first | done | rfl | exact hxb.symm)), rfl, trivial⟩
            · skip
              obtain ⟨b, hwb⟩ : ∃ b, xWk (sN A) s = some b := by
                cases e : xWk (sN A) s with
                | none => exact absurd (by rw [e]; rfl) (show ¬ xOp (xWk (sN A) s) = -1000000 by assumption)
                | some b => exact ⟨b, rfl⟩
              have hb8 := xWk_lt s b hwb
              have hxb : xOp (xWk (sN A) s) = (b : Int) := by rw [hwb]; rfl
              refine dt_iloadn dX12_week_51 rfl rfl ?_
              refine dt_xS dX12_week_52 pc_X12_294 (s_X12_bits hs8) rfl rfl ⟨by decide, by decide⟩ (Nat.le_of_ble_eq_true rfl) ⟨by decide, by decide⟩ (dt_k3 ?_)
              refine dt_iloadn dX12_week_55 rfl rfl ?_
              rw [hxb]
              refine dt_xS dX12_week_56 pc_X12_294 (s_X12_bits (by omega)) rfl rfl ⟨by decide, by decide⟩ (Nat.le_of_ble_eq_true rfl) ⟨by decide, by decide⟩ (dt_k3 ?_)
              refine dt_cm_ge (tgt := 74) dX12_week_59 (by decide) (by first | assumption | exact hwf _ _ | exact dt_b32 _ | omega | exact ⟨by omega, by omega⟩ | decide | exact ⟨by simp (disch := omega) only [dt_up_s, dt_up_k, dt_up_n]; omega, by simp (disch := omega) only [dt_up_s, dt_up_k, dt_up_n]; omega⟩) ⟨by omega, by have := dt_pop_le b; omega⟩ (fun c8 => ?_) (fun c8 => ?_)
              · skip
                have hno : ¬ ((∀ b, xWk (sN A) s = some b → dt_pop s < dt_pop b) ∧ xDeal (sN A) s) := fun z => by have := z.1 b hwb; omega
                refine dt_iloadn dX12_week_74 rfl rfl ?_
                refine dt_istoren dX12_week_75 rfl (by decide) rfl ?_
                dsimp only [List.set]
                refine dt_iinc dX12_week_76 rfl (by decide) rfl ?_
                dsimp only [List.set]
                refine dt_goto (tgt := 33) dX12_week_79 (by decide) ?_
                have hL := xWk_n hno
                exact dt_lb (ih (s + 1) (by omega) (by omega)) ⟨rfl, rfl, (dt_ie (by rw [hL]; first | done | rfl | exact hxb.symm)), rfl, trivial⟩
              · skip
                have hlt : ∀ b, xWk (sN A) s = some b → dt_pop s < dt_pop b := fun b2 e => by
                  rw [hwb] at e
                  obtain rfl := Option.some.inj e
                  omega
                refine dt_aloadn dX12_week_62 rfl rfl ?_
                refine dt_iloadn dX12_week_63 rfl rfl ?_
                refine dt_xV dX12_week_64 pc_X12_297 rfl (s_X12_isEnough hX hs8) rfl rfl ⟨by decide, by decide⟩ rfl rfl (Nat.le_of_ble_eq_true rfl) ⟨by decide, by decide⟩ (dt_k3 ?_)
                refine dt_if_eq (tgt := 74) dX12_week_67 (by decide) (by first | assumption | exact hwf _ _ | exact dt_b32 _ | omega | exact ⟨by omega, by omega⟩ | decide | exact ⟨by simp (disch := omega) only [dt_up_s, dt_up_k, dt_up_n]; omega, by simp (disch := omega) only [dt_up_s, dt_up_k, dt_up_n]; omega⟩) (fun c9 => ?_) (fun c9 => ?_)
                · skip
                  try simp only [dt_b0, dt_b1, Decidable.not_not, Classical.not_not] at c9
                  have hno : ¬ ((∀ b, xWk (sN A) s = some b → dt_pop s < dt_pop b) ∧ xDeal (sN A) s) := fun z => absurd z.2 (by assumption)
                  refine dt_iloadn dX12_week_74 rfl rfl ?_
                  refine dt_istoren dX12_week_75 rfl (by decide) rfl ?_
                  dsimp only [List.set]
                  refine dt_iinc dX12_week_76 rfl (by decide) rfl ?_
                  dsimp only [List.set]
                  refine dt_goto (tgt := 33) dX12_week_79 (by decide) ?_
                  have hL := xWk_n hno
                  exact dt_lb (ih (s + 1) (by omega) (by omega)) ⟨rfl, rfl, (dt_ie (by rw [hL]; first | done | rfl | exact hxb.symm)), rfl, trivial⟩
                · skip
                  try simp only [dt_b0, dt_b1, Decidable.not_not, Classical.not_not] at c9
                  have hye : (∀ b, xWk (sN A) s = some b → dt_pop s < dt_pop b) ∧ xDeal (sN A) s := ⟨hlt, by assumption⟩
                  refine dt_iloadn dX12_week_70 rfl rfl ?_
                  refine dt_goto (tgt := 75) dX12_week_71 (by decide) ?_
                  refine dt_istoren dX12_week_75 rfl (by decide) rfl ?_
                  dsimp only [List.set]
                  refine dt_iinc dX12_week_76 rfl (by decide) rfl ?_
                  dsimp only [List.set]
                  refine dt_goto (tgt := 33) dX12_week_79 (by decide) ?_
                  have hL := xWk_y hye
                  exact dt_lb (ih (s + 1) (by omega) (by omega)) ⟨rfl, rfl, (dt_ie (by rw [hL]; first | done | rfl | exact hxb.symm)), rfl, trivial⟩
      exact dt_lb (lp33 300 0 (by omega) (by omega)) ⟨rfl, rfl, (dt_ie rfl), rfl, trivial⟩
    · skip
      try simp only [dt_b0, dt_b1, Decidable.not_not, Classical.not_not] at c2
      refine dt_ldc dX12_week_25 pk_X12_73 ?_
      refine dt_iret dX12_week_27 rfl (by decide) (by decide) ?_
      have e : oWeek A what = (-1000001, A) := by
        unfold oWeek
        rw [if_neg hn, if_pos (by omega)]
      rw [e]
      exact ⟨rfl, rfl, hA, fa⟩
  · skip
    rw [e7] at c1
    have hn : (sN A).1 = [] := by simpa [dt_b0] using c1
    refine dt_ldc dX12_week_12 pk_X12_204 ?_
    refine dt_iret dX12_week_14 rfl (by decide) (by decide) ?_
    have e : oWeek A what = (-1000002, A) := by
      unfold oWeek
      rw [if_pos hn]
    rw [e]
    exact ⟨rfl, rfl, hA, fa⟩
