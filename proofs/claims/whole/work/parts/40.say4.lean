
/-! all that can be said in a tongue -/
def xAdd (P : Nat → Prop) (r k : Nat) : Prop := P k ∨ ∃ s, s < 256 ∧ P s ∧ s ||| r = k
def xRun (tg : List (Nat × List Nat)) : Nat → Prop := tg.foldl (fun P wd => wd.2.foldl xAdd P) xZ
def xHas (tg : List (Nat × List Nat)) (r : Nat) : Prop := ∃ wd ∈ tg, r ∈ wd.2
/-- the least set of sets that holds none and goes on by each reading -/
def xCl (C : Nat → Prop) (k : Nat) : Prop := ∀ Q : Nat → Prop, Q 0 → (∀ s r, Q s → C r → Q (s ||| r)) → Q k
theorem xCl_0 (C : Nat → Prop) : xCl C 0 := fun _ h _ => h
theorem xCl_s {C : Nat → Prop} {s r : Nat} (h : xCl C s) (hr : C r) : xCl C (s ||| r) := fun Q h0 h1 => h1 s r (h Q h0 h1) hr
theorem xAdd_in {C : Nat → Prop} {P : Nat → Prop} {r : Nat} (h : ∀ k, P k → xCl C k) (hr : C r) : ∀ k, xAdd P r k → xCl C k := fun k hk => by
  rcases hk with g | ⟨s, -, g, rfl⟩
  · exact h k g
  · exact xCl_s (h s g) hr
theorem xFold_in {C : Nat → Prop} : ∀ (l : List Nat) (P : Nat → Prop), (∀ r ∈ l, C r) → (∀ k, P k → xCl C k) → ∀ k, l.foldl xAdd P k → xCl C k
  | [], P, _, h => h
  | r :: l, P, hl, h => xFold_in l (xAdd P r) (fun x hx => hl x (List.mem_cons_of_mem _ hx)) (xAdd_in h (hl r List.mem_cons_self))
theorem xRun_in {C : Nat → Prop} : ∀ (tg : List (Nat × List Nat)) (P : Nat → Prop), (∀ wd ∈ tg, ∀ r ∈ wd.2, C r) → (∀ k, P k → xCl C k) → ∀ k, tg.foldl (fun P wd => wd.2.foldl xAdd P) P k → xCl C k
  | [], P, _, h => h
  | wd :: tg, P, hl, h => xRun_in tg _ (fun x hx => hl x (List.mem_cons_of_mem _ hx)) (xFold_in wd.2 P (hl wd List.mem_cons_self) h)
/-- goes on by r, and lies below 256 -/
def xCd (P : Nat → Prop) (r : Nat) : Prop := ∀ s, P s → P (s ||| r)
def xLw (P : Nat → Prop) : Prop := ∀ s, P s → s < 256
theorem xAdd_lw {P : Nat → Prop} {r : Nat} (h : xLw P) (hr : r < 256) : xLw (xAdd P r) := fun k hk => by
  rcases hk with g | ⟨s, g1, g2, rfl⟩
  · exact h k g
  · exact Nat.or_lt_two_pow (n := 8) g1 hr
theorem xAdd_cd {P : Nat → Prop} {r r2 : Nat} (h : xCd P r2) (hl : xLw P) : xCd (xAdd P r) r2 := fun k hk => by
  rcases hk with g | ⟨s, g1, g2, rfl⟩
  · exact Or.inl (h k g)
  · exact Or.inr ⟨s ||| r2, hl _ (h s g2), h s g2, by rw [Nat.or_assoc, Nat.or_comm r2 r, ← Nat.or_assoc]⟩
theorem xAdd_self {P : Nat → Prop} {r : Nat} (hl : xLw P) : xCd (xAdd P r) r := fun k hk => by
  rcases hk with g | ⟨s, g1, g2, rfl⟩
  · exact Or.inr ⟨k, hl k g, g, rfl⟩
  · exact Or.inr ⟨s, g1, g2, by rw [Nat.or_assoc, Nat.or_self]⟩
theorem xFold_cd : ∀ (l : List Nat) (P : Nat → Prop), (∀ r ∈ l, r < 256) → xLw P → P 0 → xLw (l.foldl xAdd P) ∧ l.foldl xAdd P 0 ∧ (∀ r ∈ l, xCd (l.foldl xAdd P) r) ∧ ∀ r, xCd P r → xCd (l.foldl xAdd P) r
  | [], P, _, h, h0 => ⟨h, h0, fun r hr => by simp at hr, fun r hr => hr⟩
  | x :: l, P, hl, h, h0 => by
    obtain ⟨a1, a2, a3, a4⟩ := xFold_cd l (xAdd P x) (fun r hr => hl r (List.mem_cons_of_mem _ hr)) (xAdd_lw h (hl x List.mem_cons_self)) (Or.inl h0)
    refine ⟨a1, a2, fun r hr => ?_, fun r hr => a4 r (xAdd_cd hr h)⟩
    rcases List.mem_cons.mp hr with rfl | g
    · exact a4 r (xAdd_self h)
    · exact a3 r g
theorem xRun_cd : ∀ (tg : List (Nat × List Nat)) (P : Nat → Prop), (∀ wd ∈ tg, ∀ r ∈ wd.2, r < 256) → xLw P → P 0 → xLw (tg.foldl (fun P wd => wd.2.foldl xAdd P) P) ∧ tg.foldl (fun P wd => wd.2.foldl xAdd P) P 0 ∧ (∀ wd ∈ tg, ∀ r ∈ wd.2, xCd (tg.foldl (fun P wd => wd.2.foldl xAdd P) P) r) ∧ ∀ r, xCd P r → xCd (tg.foldl (fun P wd => wd.2.foldl xAdd P) P) r
  | [], P, _, h, h0 => ⟨h, h0, fun r hr => by simp at hr, fun r hr => hr⟩
  | wd :: tg, P, hl, h, h0 => by
    obtain ⟨b1, b2, b3, b4⟩ := xFold_cd wd.2 P (hl wd List.mem_cons_self) h h0
    obtain ⟨a1, a2, a3, a4⟩ := xRun_cd tg (wd.2.foldl xAdd P) (fun x hx => hl x (List.mem_cons_of_mem _ hx)) b1 b2
    refine ⟨a1, a2, fun x hx r hr => ?_, fun r hr => a4 r (b4 r hr)⟩
    rcases List.mem_cons.mp hx with rfl | g
    · exact a4 r (b3 r hr)
    · exact a3 x g r hr
theorem xRun_cl {tg : List (Nat × List Nat)} (h : ∀ wd ∈ tg, ∀ r ∈ wd.2, r < 256) (k : Nat) : xRun tg k ↔ xCl (xHas tg) k := by
  constructor
  · exact xRun_in tg xZ (fun wd hw r hr => ⟨wd, hw, hr⟩) (fun k hk => by have hk : k = 0 := hk; subst hk; exact xCl_0 _) k
  · intro hk
    obtain ⟨-, a2, a3, -⟩ := xRun_cd tg xZ h (fun s hs => by have hs : s = 0 := hs; omega) rfl
    exact hk _ a2 (fun s r hs ⟨wd, hw, hr⟩ => a3 wd hw r hr s hs)
/-! what can be said surely -/
theorem or_sub {a r m : Nat} : (a ||| r) ||| m = m ↔ a ||| m = m ∧ r ||| m = m := by
  constructor
  · intro h
    constructor
    · rw [← h, ← Nat.or_assoc, ← Nat.or_assoc, Nat.or_self]
    · rw [← h, ← Nat.or_assoc, ← Nat.or_assoc, Nat.or_comm r a, Nat.or_assoc a r r, Nat.or_self]
  · rintro ⟨h1, h2⟩
    rw [Nat.or_assoc, h2, h1]
theorem xAll_w (m : Nat) : ∀ (rs : List Nat) (a : Nat), rs.foldl (fun a r => a ||| r) a ||| m = m ↔ a ||| m = m ∧ xWithin rs m
  | [], a => ⟨fun h => ⟨h, fun r hr => by simp at hr⟩, fun h => h.1⟩
  | r :: rs, a => by
    show rs.foldl _ (a ||| r) ||| m = m ↔ _
    rw [xAll_w m rs (a ||| r), or_sub]
    constructor
    · rintro ⟨⟨h1, h2⟩, h3⟩
      refine ⟨h1, fun x hx => ?_⟩
      rcases List.mem_cons.mp hx with rfl | g
      · exact h2
      · exact h3 x g
    · rintro ⟨h1, h2⟩
      exact ⟨⟨h1, h2 r List.mem_cons_self⟩, fun x hx => h2 x (List.mem_cons_of_mem _ hx)⟩
theorem xAll_i {rs : List Nat} {m : Nat} : xAll rs ||| m = m ↔ xWithin rs m := by
  have h := xAll_w m rs 0
  rw [Nat.zero_or] at h
  exact ⟨fun g => (h.mp g).2, fun g => h.mpr ⟨rfl, g⟩⟩
noncomputable def xSr (m a : Nat) (wd : Nat × List Nat) : Nat := a ||| (dt_b (xWithin wd.2 m)).toNat * xCom wd.2
theorem xSr_y {m a : Nat} {wd : Nat × List Nat} (h : xWithin wd.2 m) : xSr m a wd = a ||| xCom wd.2 := by
  unfold xSr
  rw [dt_bT h]
  show a ||| 1 * _ = _
  rw [Nat.one_mul]
theorem xSr_n {m a : Nat} {wd : Nat × List Nat} (h : ¬ xWithin wd.2 m) : xSr m a wd = a := by
  unfold xSr
  rw [dt_bF h]
  show a ||| 0 * _ = _
  rw [Nat.zero_mul, Nat.or_zero]
noncomputable def xSF (tg : List (Nat × List Nat)) (m a : Nat) : Nat := tg.foldl (xSr m) a
theorem xSr_a {m a b : Nat} {wd : Nat × List Nat} : xSr m (a ||| b) wd = a ||| xSr m b wd := Nat.or_assoc _ _ _
theorem xSF_a {m : Nat} : ∀ (tg : List (Nat × List Nat)) (a b : Nat), xSF tg m (a ||| b) = a ||| xSF tg m b
  | [], a, b => rfl
  | wd :: tg, a, b => by
    show xSF tg m (xSr m (a ||| b) wd) = a ||| xSF tg m (xSr m b wd)
    rw [xSr_a, xSF_a tg]
theorem xSr_lt {m a : Nat} {wd : Nat × List Nat} (h : a < 256) : xSr m a wd < 256 := by
  by_cases g : xWithin wd.2 m
  · rw [xSr_y g]; exact Nat.or_lt_two_pow (n := 8) h (xCom_lt _)
  · rw [xSr_n g]; exact h
theorem xSF_lt {m : Nat} : ∀ (tg : List (Nat × List Nat)) (a : Nat), a < 256 → xSF tg m a < 256
  | [], a, h => h
  | wd :: tg, a, h => xSF_lt tg _ (xSr_lt h)
noncomputable def xSt (more m : Nat) : Nat := if more ||| m = m then more else 0
/-- how many sets are surely said, with a plain word more -/
noncomputable def xSure (tg : List (Nat × List Nat)) (more : Nat) : Nat := xCnt (fun m => xSF tg m (xSt more m) = m) 256
theorem xSure_le (tg : List (Nat × List Nat)) (more : Nat) : xSure tg more ≤ 256 := xCnt_le _ _
theorem xSure_p {tg : List (Nat × List Nat)} {more : Nat} (h : more < 256) : xSure (tg ++ [(1, [more])]) 0 = xSure tg more := by
  unfold xSure
  refine xCnt_c 256 (fun m hm => ?_)
  have e0 : xSt 0 m = 0 := by unfold xSt; split <;> rfl
  have e1 : xSF (tg ++ [(1, [more])]) m 0 = xSr m (xSF tg m 0) (1, [more]) := by
    unfold xSF
    rw [List.foldl_append]
    rfl
  have e2 : xCom [more] = more := by
    show 255 &&& more = more
    rw [Nat.and_comm]
    have := Nat.and_two_pow_sub_one_eq_mod more 8
    rw [show (2 ^ 8 - 1 : Nat) = 255 from rfl] at this
    rw [this]
    omega
  have e3 : xSr m (xSF tg m 0) (1, [more]) = xSF tg m (xSt more m) := by
    have w : xWithin [more] m ↔ more ||| m = m := ⟨fun g => g more List.mem_cons_self, fun g r hr => by obtain rfl := List.mem_singleton.mp hr; exact g⟩
    unfold xSt
    by_cases g : more ||| m = m
    · rw [if_pos g, xSr_y (w.mpr g), show xSF tg m more = xSF tg m (more ||| 0) by rw [Nat.or_zero], xSF_a, Nat.or_comm]
      rw [show xCom (1, [more]).2 = more from e2]
    · rw [if_neg g, xSr_n (fun z => g (w.mp z))]
  rw [e0, e1, e3]
noncomputable def oSayable (A : dS) (day what : Int) : Int × dS := if (sN A).1 = [] then (-1000002, A) else if ¬ ((0 ≤ day ∧ day ≤ 1000000) ∧ 0 ≤ what ∧ what ≤ 1) then (-1000001, A) else (if what = 0 then ((xCnt (xCl (xHas ((sN A).1.getD (day % ((sN A).1.length : Int)).toNat []))) 256 : Nat) : Int) else ((xSure ((sN A).1.getD (day % ((sN A).1.length : Int)).toNat []) 0 : Nat) : Int), A)
noncomputable def xLet (X : dX) (m : Nat) : Nat → Int × Int
  | 0 => (-1000000, -1000000)
  | t + 1 => if (X.1.getD t []).length < 8 then (if (xLet X m t).2 < (xSure (X.1.getD t []) m : Int) - (xSure (X.1.getD t []) 0 : Int) then ((t : Int), (xSure (X.1.getD t []) m : Int) - (xSure (X.1.getD t []) 0 : Int)) else xLet X m t) else xLet X m t
noncomputable def oLetIn (A : dS) (m : Int) : Int × dS := if (sN A).1 = [] then (-1000002, A) else if ¬ (1 ≤ m ∧ m ≤ 255) then (-1000001, A) else ((xLet (sN A) m.toNat (sN A).1.length).1, A)
theorem xLet_in (X : dX) (m : Nat) : ∀ t, t ≤ 100 → -1000000 ≤ (xLet X m t).1 ∧ (xLet X m t).1 ≤ 100 ∧ -1000000 ≤ (xLet X m t).2 ∧ (xLet X m t).2 ≤ 256
  | 0, _ => ⟨(by decide : (-1000000 : Int) ≤ -1000000), (by decide : (-1000000 : Int) ≤ 100), (by decide : (-1000000 : Int) ≤ -1000000), (by decide : (-1000000 : Int) ≤ 256)⟩
  | t + 1, h => by
    have a := xLet_in X m t (by omega)
    have b := xSure_le (X.1.getD t []) m
    have c := xSure_le (X.1.getD t []) 0
    unfold xLet
    split
    · split
      · exact ⟨by show -1000000 ≤ (t : Int); omega, by show (t : Int) ≤ 100; omega, by show -1000000 ≤ (xSure _ m : Int) - (xSure _ 0 : Int); omega, by show (xSure _ m : Int) - (xSure _ 0 : Int) ≤ 256; omega⟩
      · exact a
    · exact a
theorem xLet_k {X : dX} {m t : Nat} {tg : List (Nat × List Nat)} (h : X.1[t]? = some tg) (h2 : ¬ tg.length < 8) : xLet X m (t + 1) = xLet X m t := by
  simp only [xLet]
  rw [dt_gd h, if_neg h2]
theorem xLet_n {X : dX} {m t : Nat} {tg : List (Nat × List Nat)} (h : X.1[t]? = some tg) (h2 : tg.length < 8) (h3 : ¬ (xLet X m t).2 < (xSure tg m : Int) - (xSure tg 0 : Int)) : xLet X m (t + 1) = xLet X m t := by
  simp only [xLet]
  rw [dt_gd h, if_pos h2, if_neg h3]
theorem xLet_y {X : dX} {m t : Nat} {tg : List (Nat × List Nat)} (h : X.1[t]? = some tg) (h2 : tg.length < 8) (h3 : (xLet X m t).2 < (xSure tg m : Int) - (xSure tg 0 : Int)) : xLet X m (t + 1) = ((t : Int), (xSure tg m : Int) - (xSure tg 0 : Int)) := by
  simp only [xLet]
  rw [dt_gd h, if_pos h2, if_pos h3]
theorem s_X8_addToAll {ex : List dt_Shp} {σ : dt_Mem} {P : Nat → Prop} {r : Nat} (hM : mP σ 32 256 P) (hr8 : r < 256) : dt_Sp mX8_addToAll 0 0 0 [dt_R 31, dt_I (r : Int)] (dt_SH ++ ex) σ (fun v sh2 σ2 => v = none ∧ sh2 = dt_SH ++ ex ∧ (∀ b, b ≠ 32 → σ2 b = σ b) ∧ mP σ2 32 256 (xAdd P r)) := by
  refine dt_Sp_of (by decide) (Nat.le_of_ble_eq_true rfl) ?_
  refine dt_wfV fun hwf => ?_
  show dt_V _ _ _ 0 0 0 [some (dt_R 31), some (dt_I (r : Int)), none] [] _ _
  refine dt_iconst dX8_addToAll_0 ?_
  refine dt_istoren dX8_addToAll_1 rfl (by decide) rfl ?_
  dsimp only [List.set]
  have lp2 : ∀ (fu : Nat) (i : Nat) (σ1 : dt_Mem), 256 - (i : Int) < (fu : Int) → (i ≤ 256) → (∀ b, b ≠ 32 → σ1 b = σ b) → (mP σ1 32 256 (fun k => P k ∨ ∃ s, s < i ∧ P s ∧ s ||| r = k)) →  dt_V mX8_addToAll (dt_rm 0 0 0) (dt_MC (fun v sh2 σ2 => v = none ∧ sh2 = dt_SH ++ ex ∧ (∀ b, b ≠ 32 → σ2 b = σ b) ∧ mP σ2 32 256 (xAdd P r)) 0 0) 0 0 2 [some (dt_R 31), some (dt_I (r : Int)), some (dt_I (i : Int))] [] (dt_SH ++ ex) σ1 := by
    intro fu
    induction fu with
    | zero =>
      intro i σ1 hm ji jf jm
      exfalso
      omega
    | succ fu ih =>
      intro i σ1 hm ji jf jm
      refine dt_wfV fun hwf => ?_
      refine dt_iloadn dX8_addToAll_2 rfl rfl ?_
      refine dt_sipush dX8_addToAll_3 (by decide) ?_
      refine dt_cm_ge (tgt := 42) dX8_addToAll_6 (by decide) (by first | assumption | exact hwf _ _ | exact dt_b32 _ | omega | exact ⟨by omega, by omega⟩ | decide | exact ⟨by simp (disch := omega) only [dt_up_s, dt_up_k, dt_up_n]; omega, by simp (disch := omega) only [dt_up_s, dt_up_k, dt_up_n]; omega⟩) (by first | assumption | exact hwf _ _ | exact dt_b32 _ | omega | exact ⟨by omega, by omega⟩ | decide | exact ⟨by simp (disch := omega) only [dt_up_s, dt_up_k, dt_up_n]; omega, by simp (disch := omega) only [dt_up_s, dt_up_k, dt_up_n]; omega⟩) (fun c1 => ?_) (fun c1 => ?_)
      · skip
        refine dt_vret dX8_addToAll_42 rfl (by decide) (by decide) ?_
        obtain rfl : i = 256 := by omega
        exact ⟨rfl, rfl, jf, jm⟩
      · skip
        have hi : i < 256 := by omega
        have hor : i ||| r < 256 := Nat.or_lt_two_pow (n := 8) hi hr8
        refine dt_aloadn dX8_addToAll_9 rfl rfl ?_
        refine dt_getR dX8_addToAll_10 pg_X8_15_8 rfl rfl ?_
        refine dt_iloadn dX8_addToAll_13 rfl rfl ?_
        refine dt_zald dX8_addToAll_14 rfl (by first | omega | (simp (disch := omega) only [dt_up_s, dt_up_k, dt_up_n]; omega)) (by first | omega | (simp (disch := omega) only [dt_up_s, dt_up_k, dt_up_n]; omega)) (by decide) ?_
        rw [Int.toNat_natCast, jm i hi]
        refine dt_if_eq (tgt := 36) dX8_addToAll_15 (by decide) (by first | assumption | exact hwf _ _ | exact dt_b32 _ | omega | exact ⟨by omega, by omega⟩ | decide | exact ⟨by simp (disch := omega) only [dt_up_s, dt_up_k, dt_up_n]; omega, by simp (disch := omega) only [dt_up_s, dt_up_k, dt_up_n]; omega⟩) (fun c2 => ?_) (fun c2 => ?_)
        · skip
          try simp only [dt_b0, dt_b1, Decidable.not_not, Classical.not_not] at c2
          have hnp : ¬ (fun k => P k ∨ ∃ s, s < i ∧ P s ∧ s ||| r = k) i := by assumption
          refine dt_iinc dX8_addToAll_36 rfl (by decide) rfl ?_
          dsimp only [List.set]
          refine dt_goto (tgt := 2) dX8_addToAll_39 (by decide) ?_
          have jm2 : mP σ1 32 256 (fun k => P k ∨ ∃ s, s < i + 1 ∧ P s ∧ s ||| r = k) := jm.ext (fun k _ => ⟨fun z => z.elim Or.inl (fun ⟨s, a, b⟩ => Or.inr ⟨s, by omega, b⟩), fun z => z.elim Or.inl (fun ⟨s, a, b, c⟩ => by
            by_cases e : s = i
            · subst e; exact absurd (Or.inl b) hnp
            · exact Or.inr ⟨s, by omega, b, c⟩)⟩)
          exact dt_lb (ih (i + 1) σ1 (by omega) (by omega) jf jm2) ⟨rfl, rfl, rfl, trivial⟩
        · skip
          try simp only [dt_b0, dt_b1, Decidable.not_not, Classical.not_not] at c2
          have hyp : P i ∨ ∃ s, s < i ∧ P s ∧ s ||| r = i := by assumption
          refine dt_iloadn dX8_addToAll_18 rfl rfl ?_
          refine dt_iloadn dX8_addToAll_19 rfl rfl ?_
          refine dt_ior dX8_addToAll_20 ?_
          rw [dj_or_nn (by omega) (by omega)]
          refine dt_sipush dX8_addToAll_21 (by decide) ?_
          refine dt_cm_ge (tgt := 36) dX8_addToAll_24 (by decide) (by first | assumption | exact hwf _ _ | exact dt_b32 _ | omega | exact ⟨by omega, by omega⟩ | decide | exact ⟨by simp (disch := omega) only [dt_up_s, dt_up_k, dt_up_n]; omega, by simp (disch := omega) only [dt_up_s, dt_up_k, dt_up_n]; omega⟩) (by first | assumption | exact hwf _ _ | exact dt_b32 _ | omega | exact ⟨by omega, by omega⟩ | decide | exact ⟨by simp (disch := omega) only [dt_up_s, dt_up_k, dt_up_n]; omega, by simp (disch := omega) only [dt_up_s, dt_up_k, dt_up_n]; omega⟩) (fun c3 => ?_) (fun c3 => ?_)
          · skip
            exfalso
            omega
          · skip
            refine dt_aloadn dX8_addToAll_27 rfl rfl ?_
            refine dt_getR dX8_addToAll_28 pg_X8_15_8 rfl rfl ?_
            refine dt_iloadn dX8_addToAll_31 rfl rfl ?_
            refine dt_iloadn dX8_addToAll_32 rfl rfl ?_
            refine dt_ior dX8_addToAll_33 ?_
            rw [dj_or_nn (by omega) (by omega)]
            refine dt_iconst dX8_addToAll_34 ?_
            refine dt_zast dX8_addToAll_35 rfl (by first | omega | (simp (disch := omega) only [dt_up_s, dt_up_k, dt_up_n]; omega)) (by first | omega | (simp (disch := omega) only [dt_up_s, dt_up_k, dt_up_n]; omega)) (by decide) (by first | exact Or.inl rfl | exact Or.inr rfl | assumption | omega) ?_
            rw [Int.toNat_natCast]
            refine dt_iinc dX8_addToAll_36 rfl (by decide) rfl ?_
            dsimp only [List.set]
            refine dt_goto (tgt := 2) dX8_addToAll_39 (by decide) ?_
            have jm2 := (jm.mark (j := i ||| r)).ext (Q := (fun k => P k ∨ ∃ s, s < i + 1 ∧ P s ∧ s ||| r = k)) (fun k _ => ⟨fun z => by
              rcases z with (z | ⟨s, a, b⟩) | z
              · exact Or.inl z
              · exact Or.inr ⟨s, by omega, b⟩
              · rcases hyp with g | ⟨s, a, b, c⟩
                · exact Or.inr ⟨i, by omega, g, z.symm⟩
                · refine Or.inr ⟨s, by omega, b, ?_⟩
                  rw [z, ← c, Nat.or_assoc, Nat.or_self], fun z => by
              rcases z with z | ⟨s, a, b, c⟩
              · exact Or.inl (Or.inl z)
              · by_cases e : s = i
                · subst e; exact Or.inr c.symm
                · exact Or.inl (Or.inr ⟨s, by omega, b, c⟩)⟩)
            exact dt_lb (ih (i + 1) _ (by omega) (by omega) (fun b hb => (dt_up_o hb).trans (jf b hb)) jm2) ⟨rfl, rfl, rfl, trivial⟩
  exact dt_lb (lp2 300 0 σ (by omega) (by omega) (fun _ _ => rfl) (hM.ext (fun k _ => ⟨Or.inl, fun z => z.elim id (fun ⟨_, z, _⟩ => absurd z (Nat.not_lt_zero _))⟩))) ⟨rfl, rfl, rfl, trivial⟩
theorem s_X8_perhapsSaid {ex : List dt_Shp} {σ : dt_Mem} {X : dX} {t : Nat} {tg : List (Nat × List Nat)} (hX : cPort σ 7 X) (hok : dX_ok X) (htg : X.1[t]? = some tg) : dt_Sp mX8_perhapsSaid 3 0 0 [dt_R 31, dt_I (t : Int)] (dt_SH ++ ex) σ (fun v sh2 σ2 => v = some (dt_I ((xCnt (xCl (xHas tg)) 256 : Nat) : Int)) ∧ sh2 = dt_SH ++ ex ∧ (∀ b, b ≠ 32 → σ2 b = σ b)) := by
  refine dt_Sp_of (by decide) (Nat.le_of_ble_eq_true rfl) ?_
  refine dt_wfV fun hwf => ?_
  obtain ⟨g1, g2, g3⟩ := hX.2.2.2.2.1 t tg htg
  obtain ⟨o1, o2⟩ := hok.2.1 tg (List.mem_of_getElem? htg)
  have e5 := hX.t
  have lt := dt_gl htg
  have lt7 := hok.1
  show dt_V _ _ _ 0 0 0 [some (dt_R 31), some (dt_I (t : Int)), none, none] [] _ _
  refine dt_aloadn dX8_perhapsSaid_0 rfl rfl ?_
  refine dt_xV dX8_perhapsSaid_1 pc_X8_62 rfl s_X8_begin rfl rfl ⟨by decide, by decide⟩ rfl rfl (Nat.le_of_ble_eq_true rfl) ⟨by decide, by decide⟩ ?_
  intro v1 sh1 σ1 hq1
  obtain ⟨rfl, hs1, hf1, hM1⟩ := hq1
  obtain rfl := hs1.symm
  refine dt_iconst dX8_perhapsSaid_4 ?_
  refine dt_istoren dX8_perhapsSaid_5 rfl (by decide) rfl ?_
  dsimp only [List.set]
  have lp6 : ∀ (fu : Nat) (w : Nat) (σ1 : dt_Mem), (tg.length : Int) - w < (fu : Int) → (w ≤ tg.length) → (∀ b, b ≠ 32 → σ1 b = σ b) → (mP σ1 32 256 ((tg.take w).foldl (fun P wd => wd.2.foldl xAdd P) xZ)) →  dt_V mX8_perhapsSaid (dt_rm 3 0 0) (dt_MC (fun v sh2 σ2 => v = some (dt_I ((xCnt (xCl (xHas tg)) 256 : Nat) : Int)) ∧ sh2 = dt_SH ++ ex ∧ (∀ b, b ≠ 32 → σ2 b = σ b)) 0 0) 0 0 6 [some (dt_R 31), some (dt_I (t : Int)), some (dt_I (w : Int)), none] [] (dt_SH ++ ex) σ1 := by
    intro fu
    induction fu with
    | zero =>
      intro w σ1 hm wl jf jm
      exfalso
      omega
    | succ fu ih =>
      intro w σ1 hm wl jf jm
      refine dt_wfV fun hwf => ?_
      have ih0 := ih
      refine dt_iloadn dX8_perhapsSaid_6 rfl rfl ?_
      refine dt_aloadn dX8_perhapsSaid_7 rfl rfl ?_
      refine dt_getR dX8_perhapsSaid_8 pg_X8_9_8 rfl rfl ?_
      refine dt_iloadn dX8_perhapsSaid_11 rfl rfl ?_
      refine dt_xV dX8_perhapsSaid_12 pc_X8_65 rfl (s_X6_wordsOf dt_p7 ⟨by omega, by rw [jf 7 (by decide)]; omega, by omega⟩) rfl rfl ⟨by decide, by decide⟩ rfl rfl (Nat.le_of_ble_eq_true rfl) ⟨by decide, by decide⟩ (dt_k3 ?_)
      rw [Int.toNat_natCast, show σ1 (7 + 1) t = tg.length by rw [jf (7 + 1) (by decide)]; exact g2]
      refine dt_cm_ge (tgt := 63) dX8_perhapsSaid_15 (by decide) (by first | assumption | exact hwf _ _ | exact dt_b32 _ | omega | exact ⟨by omega, by omega⟩ | decide | exact ⟨by simp (disch := omega) only [dt_up_s, dt_up_k, dt_up_n]; omega, by simp (disch := omega) only [dt_up_s, dt_up_k, dt_up_n]; omega⟩) (by first | assumption | exact hwf _ _ | exact dt_b32 _ | omega | exact ⟨by omega, by omega⟩ | decide | exact ⟨by simp (disch := omega) only [dt_up_s, dt_up_k, dt_up_n]; omega, by simp (disch := omega) only [dt_up_s, dt_up_k, dt_up_n]; omega⟩) (fun c1 => ?_) (fun c1 => ?_)
      · skip
        refine dt_aloadn dX8_perhapsSaid_63 rfl rfl ?_
        refine dt_getR dX8_perhapsSaid_64 pg_X8_15_8 rfl rfl ?_
        refine dt_xS dX8_perhapsSaid_67 pc_X8_54 (s_X8_manyOf rfl jm) rfl rfl ⟨by decide, by decide⟩ (Nat.le_of_ble_eq_true rfl) ⟨by decide, by decide⟩ (dt_k3 ?_)
        refine dt_iret dX8_perhapsSaid_70 rfl (by decide) (by decide) ?_
        rw [show (tg.take w) = tg from List.take_of_length_le (by omega)] at jm
        refine ⟨?_, rfl, jf⟩
        rw [show tg.take w = tg from List.take_of_length_le (by omega), show xCnt (tg.foldl (fun P wd => wd.2.foldl xAdd P) xZ) 256 = xCnt (xCl (xHas tg)) 256 from xCnt_c 256 (fun k _ => xRun_cl (fun wd hw r hr => ((o2 wd hw).2.2.2.2.2 r hr).2) k)]
      · skip
        obtain ⟨wd, hwd⟩ := dt_lg (l := tg) (i := w) (by omega)
        have hw : xW X t w wd := ⟨tg, htg, hwd⟩
        obtain ⟨w1, w2, w3, w4, w5, w6, w7, w8⟩ := hX.word hw
        have wok := o2 wd (List.mem_of_getElem? hwd)
        have e13 : ((t : Int) * 8 + (w : Int)).toNat = t * 8 + w := by omega
        refine dt_iconst dX8_perhapsSaid_18 ?_
        refine dt_istoren dX8_perhapsSaid_19 rfl (by decide) rfl ?_
        dsimp only [List.set]
        have lp20 : ∀ (fu : Nat) (q : Nat) (σ2 : dt_Mem), (wd.2.length : Int) - q < (fu : Int) → (q ≤ wd.2.length) → (∀ b, b ≠ 32 → σ2 b = σ b) → (mP σ2 32 256 ((wd.2.take q).foldl xAdd ((tg.take w).foldl (fun P wd => wd.2.foldl xAdd P) xZ))) →  dt_V mX8_perhapsSaid (dt_rm 3 0 0) (dt_MC (fun v sh2 σ2 => v = some (dt_I ((xCnt (xCl (xHas tg)) 256 : Nat) : Int)) ∧ sh2 = dt_SH ++ ex ∧ (∀ b, b ≠ 32 → σ2 b = σ b)) 0 0) 0 0 20 [some (dt_R 31), some (dt_I (t : Int)), some (dt_I (w : Int)), some (dt_I (q : Int))] [] (dt_SH ++ ex) σ2 := by
          intro fu
          induction fu with
          | zero =>
            intro q σ2 hm ql kf km
            exfalso
            omega
          | succ fu ih =>
            intro q σ2 hm ql kf km
            refine dt_wfV fun hwf => ?_
            refine dt_iloadn dX8_perhapsSaid_20 rfl rfl ?_
            refine dt_aloadn dX8_perhapsSaid_21 rfl rfl ?_
            refine dt_getR dX8_perhapsSaid_22 pg_X8_9_8 rfl rfl ?_
            refine dt_iloadn dX8_perhapsSaid_25 rfl rfl ?_
            refine dt_iloadn dX8_perhapsSaid_26 rfl rfl ?_
            refine dt_xV dX8_perhapsSaid_27 pc_X8_44 rfl (s_X6_readingsOf dt_p7 ((hX.kept (fun b _ _ => kf b (by omega))).hasW hw)) rfl rfl ⟨by decide, by decide⟩ rfl rfl (Nat.le_of_ble_eq_true rfl) ⟨by decide, by decide⟩ (dt_k3 ?_)
            rw [e13, show σ2 (7 + 3) (t * 8 + w) = wd.2.length by rw [kf (7 + 3) (by decide)]; exact w7]
            refine dt_cm_ge (tgt := 57) dX8_perhapsSaid_30 (by decide) (by first | assumption | exact hwf _ _ | exact dt_b32 _ | omega | exact ⟨by omega, by omega⟩ | decide | exact ⟨by simp (disch := omega) only [dt_up_s, dt_up_k, dt_up_n]; omega, by simp (disch := omega) only [dt_up_s, dt_up_k, dt_up_n]; omega⟩) (by first | assumption | exact hwf _ _ | exact dt_b32 _ | omega | exact ⟨by omega, by omega⟩ | decide | exact ⟨by simp (disch := omega) only [dt_up_s, dt_up_k, dt_up_n]; omega, by simp (disch := omega) only [dt_up_s, dt_up_k, dt_up_n]; omega⟩) (fun c2 => ?_) (fun c2 => ?_)
            · skip
              refine dt_iinc dX8_perhapsSaid_57 rfl (by decide) rfl ?_
              dsimp only [List.set]
              refine dt_goto (tgt := 6) dX8_perhapsSaid_60 (by decide) ?_
              rw [show q = wd.2.length by omega, List.take_length] at km
              have km2 : mP σ2 32 256 ((tg.take (w + 1)).foldl (fun P wd => wd.2.foldl xAdd P) xZ) := by rw [fl_s hwd]; exact km
              exact dt_lb (ih0 (w + 1) σ2 (by omega) (by omega) kf km2) ⟨rfl, rfl, rfl, trivial⟩
            · skip
              obtain ⟨r, hr⟩ := dt_lg (l := wd.2) (i := q) (by omega)
              have hr8 := (wok.2.2.2.2.2 r (List.mem_of_getElem? hr)).2
              refine dt_aloadn dX8_perhapsSaid_33 rfl rfl ?_
              refine dt_aloadn dX8_perhapsSaid_34 rfl rfl ?_
              refine dt_getR dX8_perhapsSaid_35 pg_X8_9_8 rfl rfl ?_
              refine dt_iloadn dX8_perhapsSaid_38 rfl rfl ?_
              refine dt_iloadn dX8_perhapsSaid_39 rfl rfl ?_
              refine dt_iloadn dX8_perhapsSaid_40 rfl rfl ?_
              refine dt_xV dX8_perhapsSaid_41 pc_X8_50 rfl (s_X6_reading dt_p7 ⟨(hX.kept (fun b _ _ => kf b (by omega))).hasW hw, by omega, by omega, by rw [e13, show σ2 (7 + 3) (t * 8 + w) = wd.2.length by rw [kf (7 + 3) (by decide)]; exact w7]; omega⟩) rfl rfl ⟨by decide, by decide⟩ rfl rfl (Nat.le_of_ble_eq_true rfl) ⟨by decide, by decide⟩ (dt_k3 ?_)
              rw [show (((t : Int) * 8 + (w : Int)) * 3 + (q : Int)).toNat = (t * 8 + w) * 3 + q by omega, show σ2 (7 + 4) ((t * 8 + w) * 3 + q) = r by rw [kf (7 + 4) (by decide)]; exact w8 q r hr]
              refine dt_sipush dX8_perhapsSaid_44 (by decide) ?_
              refine dt_iand dX8_perhapsSaid_47 ?_
              rw [dj_and255 hr8]
              refine dt_xV dX8_perhapsSaid_48 pc_X8_69 rfl (s_X8_addToAll km hr8) rfl rfl ⟨by decide, by decide⟩ rfl rfl (Nat.le_of_ble_eq_true rfl) ⟨by decide, by decide⟩ ?_
              intro va sha σa hqa
              obtain ⟨rfl, hsa, hfa, hMa⟩ := hqa
              obtain rfl := hsa.symm
              refine dt_iinc dX8_perhapsSaid_51 rfl (by decide) rfl ?_
              dsimp only [List.set]
              refine dt_goto (tgt := 20) dX8_perhapsSaid_54 (by decide) ?_
              have km2 : mP σa 32 256 ((wd.2.take (q + 1)).foldl xAdd ((tg.take w).foldl (fun P wd => wd.2.foldl xAdd P) xZ)) := by rw [fl_s hr]; exact hMa
              exact dt_lb (ih (q + 1) σa (by omega) (by omega) (fun b hb => (hfa b hb).trans (kf b hb)) km2) ⟨rfl, rfl, rfl, rfl, trivial⟩
        exact dt_lb (lp20 9 0 σ1 (by omega) (by omega) jf jm) ⟨rfl, rfl, rfl, rfl, trivial⟩
  exact dt_lb (lp6 9 0 σ1 (by omega) (by omega) hf1 hM1) ⟨rfl, rfl, rfl, trivial⟩
theorem s_X8_surelySaid {ex : List dt_Shp} {σ : dt_Mem} {X : dX} {t more : Nat} {tg : List (Nat × List Nat)} (hX : cPort σ 7 X) (hok : dX_ok X) (htg : X.1[t]? = some tg) (hm8 : more < 256) : dt_Sp mX8_surelySaid 4 0 0 [dt_R 31, dt_I (t : Int), dt_I (more : Int)] (dt_SH ++ ex) σ (fun v sh2 σ2 => v = some (dt_I ((xSure tg more : Nat) : Int)) ∧ sh2 = dt_SH ++ ex ∧ (∀ b, b ≠ 37 → b ≠ 38 → σ2 b = σ b)) := by
  refine dt_Sp_of (by decide) (Nat.le_of_ble_eq_true rfl) ?_
  refine dt_wfV fun hwf => ?_
  obtain ⟨g1, g2, g3⟩ := hX.2.2.2.2.1 t tg htg
  obtain ⟨o1, o2⟩ := hok.2.1 tg (List.mem_of_getElem? htg)
  have e5 := hX.t
  have lt := dt_gl htg
  have lt7 := hok.1
  show dt_V _ _ _ 0 0 0 [some (dt_R 31), some (dt_I (t : Int)), some (dt_I (more : Int)), none, none, none, none, none] [] _ _
  refine dt_aloadn dX8_surelySaid_0 rfl rfl ?_
  refine dt_getR dX8_surelySaid_1 pg_X8_9_8 rfl rfl ?_
  refine dt_iloadn dX8_surelySaid_4 rfl rfl ?_
  refine dt_xV dX8_surelySaid_5 pc_X8_65 rfl (s_X6_wordsOf dt_p7 ⟨by omega, by omega, by omega⟩) rfl rfl ⟨by decide, by decide⟩ rfl rfl (Nat.le_of_ble_eq_true rfl) ⟨by decide, by decide⟩ (dt_k3 ?_)
  rw [Int.toNat_natCast, g2]
  refine dt_bipush dX8_surelySaid_8 (by decide) ?_
  refine dt_min dX8_surelySaid_10 po_X8_73 pmm_s pmm_i pmm_c (by decide) (by decide) (by decide) (by decide) (by first | assumption | exact hwf _ _ | exact dt_b32 _ | omega | exact ⟨by omega, by omega⟩ | decide | exact ⟨by simp (disch := omega) only [dt_up_s, dt_up_k, dt_up_n]; omega, by simp (disch := omega) only [dt_up_s, dt_up_k, dt_up_n]; omega⟩) (by first | assumption | exact hwf _ _ | exact dt_b32 _ | omega | exact ⟨by omega, by omega⟩ | decide | exact ⟨by simp (disch := omega) only [dt_up_s, dt_up_k, dt_up_n]; omega, by simp (disch := omega) only [dt_up_s, dt_up_k, dt_up_n]; omega⟩) ?_
  rw [if_neg (by omega)]
  refine dt_istoren dX8_surelySaid_13 rfl (by decide) rfl ?_
  dsimp only [List.set]
  refine dt_iconst dX8_surelySaid_14 ?_
  refine dt_istore dX8_surelySaid_15 (by decide) rfl ?_
  dsimp only [List.set]
  have lp17 : ∀ (fu : Nat) (w : Nat) (σ1 : dt_Mem), (tg.length : Int) - w < (fu : Int) → (w ≤ tg.length) → (∀ b, b ≠ 37 → b ≠ 38 → σ1 b = σ b) → (∀ (j : Nat) (wd : Nat × List Nat), j < w → tg[j]? = some wd → σ1 37 j = (xAll wd.2 : Nat) ∧ σ1 38 j = (xCom wd.2 : Nat)) →  dt_V mX8_surelySaid (dt_rm 4 0 0) (dt_MC (fun v sh2 σ2 => v = some (dt_I ((xSure tg more : Nat) : Int)) ∧ sh2 = dt_SH ++ ex ∧ (∀ b, b ≠ 37 → b ≠ 38 → σ2 b = σ b)) 0 0) 0 0 17 [some (dt_R 31), some (dt_I (t : Int)), some (dt_I (more : Int)), some (dt_I (tg.length : Int)), some (dt_I (w : Int)), none, none, none] [] (dt_SH ++ ex) σ1 := by
    intro fu
    induction fu with
    | zero =>
      intro w σ1 hm wl jf jm
      exfalso
      omega
    | succ fu ih =>
      intro w σ1 hm wl jf jm
      refine dt_wfV fun hwf => ?_
      refine dt_iload dX8_surelySaid_17 rfl ?_
      refine dt_iloadn dX8_surelySaid_19 rfl rfl ?_
      refine dt_cm_ge (tgt := 63) dX8_surelySaid_20 (by decide) (by first | assumption | exact hwf _ _ | exact dt_b32 _ | omega | exact ⟨by omega, by omega⟩ | decide | exact ⟨by simp (disch := omega) only [dt_up_s, dt_up_k, dt_up_n]; omega, by simp (disch := omega) only [dt_up_s, dt_up_k, dt_up_n]; omega⟩) (by first | assumption | exact hwf _ _ | exact dt_b32 _ | omega | exact ⟨by omega, by omega⟩ | decide | exact ⟨by simp (disch := omega) only [dt_up_s, dt_up_k, dt_up_n]; omega, by simp (disch := omega) only [dt_up_s, dt_up_k, dt_up_n]; omega⟩) (fun c1 => ?_) (fun c1 => ?_)
      · skip
        have jm0 := jm
        refine dt_iconst dX8_surelySaid_63 ?_
        refine dt_istore dX8_surelySaid_64 (by decide) rfl ?_
        dsimp only [List.set]
        refine dt_iconst dX8_surelySaid_66 ?_
        refine dt_istore dX8_surelySaid_67 (by decide) rfl ?_
        dsimp only [List.set]
        have lp69 : ∀ (fu : Nat) (m : Nat), 256 - (m : Int) < (fu : Int) → (m ≤ 256) →  dt_V mX8_surelySaid (dt_rm 4 0 0) (dt_MC (fun v sh2 σ2 => v = some (dt_I ((xSure tg more : Nat) : Int)) ∧ sh2 = dt_SH ++ ex ∧ (∀ b, b ≠ 37 → b ≠ 38 → σ2 b = σ b)) 0 0) 0 0 69 [some (dt_R 31), some (dt_I (t : Int)), some (dt_I (more : Int)), some (dt_I (tg.length : Int)), some (dt_I ((xCnt (fun m => xSF tg m (xSt more m) = m) m : Nat) : Int)), some (dt_I (m : Int)), none, none] [] (dt_SH ++ ex) σ1 := by
          intro fu
          induction fu with
          | zero =>
            intro m hm ml
            exfalso
            omega
          | succ fu ih =>
            intro m hm ml
            refine dt_wfV fun hwf => ?_
            have ih0 := ih
            have hcl := xCnt_le (fun m => xSF tg m (xSt more m) = m) m
            refine dt_iload dX8_surelySaid_69 rfl ?_
            refine dt_sipush dX8_surelySaid_71 (by decide) ?_
            refine dt_cm_ge (tgt := 151) dX8_surelySaid_74 (by decide) (by first | assumption | exact hwf _ _ | exact dt_b32 _ | omega | exact ⟨by omega, by omega⟩ | decide | exact ⟨by simp (disch := omega) only [dt_up_s, dt_up_k, dt_up_n]; omega, by simp (disch := omega) only [dt_up_s, dt_up_k, dt_up_n]; omega⟩) (by first | assumption | exact hwf _ _ | exact dt_b32 _ | omega | exact ⟨by omega, by omega⟩ | decide | exact ⟨by simp (disch := omega) only [dt_up_s, dt_up_k, dt_up_n]; omega, by simp (disch := omega) only [dt_up_s, dt_up_k, dt_up_n]; omega⟩) (fun c2 => ?_) (fun c2 => ?_)
            · skip
              refine dt_iload dX8_surelySaid_151 rfl ?_
              refine dt_iret dX8_surelySaid_153 rfl (by decide) (by decide) ?_
              obtain rfl : m = 256 := by omega
              exact ⟨rfl, rfl, jf⟩
            · skip
              have hm256 : m < 256 := by omega
              have hmor := Nat.or_lt_two_pow (n := 8) hm8 hm256
              refine dt_iloadn dX8_surelySaid_77 rfl rfl ?_
              refine dt_iload dX8_surelySaid_78 rfl ?_
              refine dt_ior dX8_surelySaid_80 ?_
              rw [dj_or_nn (by omega) (by omega)]
              refine dt_iload dX8_surelySaid_81 rfl ?_
              refine dt_cm_ne (tgt := 90) dX8_surelySaid_83 (by decide) (by first | assumption | exact hwf _ _ | exact dt_b32 _ | omega | exact ⟨by omega, by omega⟩ | decide | exact ⟨by simp (disch := omega) only [dt_up_s, dt_up_k, dt_up_n]; omega, by simp (disch := omega) only [dt_up_s, dt_up_k, dt_up_n]; omega⟩) (by first | assumption | exact hwf _ _ | exact dt_b32 _ | omega | exact ⟨by omega, by omega⟩ | decide | exact ⟨by simp (disch := omega) only [dt_up_s, dt_up_k, dt_up_n]; omega, by simp (disch := omega) only [dt_up_s, dt_up_k, dt_up_n]; omega⟩) (fun c3 => ?_) (fun c3 => ?_)
              · skip
                have hst : (0 : Int) = ((xSt more m : Nat) : Int) := by unfold xSt; rw [if_neg (by omega)]; rfl
                have hst8 : xSt more m < 256 := by omega
                refine dt_iconst dX8_surelySaid_90 ?_
                refine dt_istore dX8_surelySaid_91 (by decide) rfl ?_
                dsimp only [List.set]
                refine dt_iconst dX8_surelySaid_93 ?_
                refine dt_istore dX8_surelySaid_94 (by decide) rfl ?_
                dsimp only [List.set]
                have lp96 : ∀ (fu : Nat) (w : Nat), (tg.length : Int) - w < (fu : Int) → (w ≤ tg.length) →  dt_V mX8_surelySaid (dt_rm 4 0 0) (dt_MC (fun v sh2 σ2 => v = some (dt_I ((xSure tg more : Nat) : Int)) ∧ sh2 = dt_SH ++ ex ∧ (∀ b, b ≠ 37 → b ≠ 38 → σ2 b = σ b)) 0 0) 0 0 96 [some (dt_R 31), some (dt_I (t : Int)), some (dt_I (more : Int)), some (dt_I (tg.length : Int)), some (dt_I ((xCnt (fun m => xSF tg m (xSt more m) = m) m : Nat) : Int)), some (dt_I (m : Int)), some (dt_I ((xSF (tg.take w) m (xSt more m) : Nat) : Int)), some (dt_I (w : Int))] [] (dt_SH ++ ex) σ1 := by
                  intro fu
                  induction fu with
                  | zero =>
                    intro w hm wl2
                    exfalso
                    omega
                  | succ fu ih =>
                    intro w hm wl2
                    refine dt_wfV fun hwf => ?_
                    have hfl := xSF_lt (m := m) (tg.take w) (xSt more m) hst8
                    refine dt_iload dX8_surelySaid_96 rfl ?_
                    refine dt_iloadn dX8_surelySaid_98 rfl rfl ?_
                    refine dt_cm_ge (tgt := 135) dX8_surelySaid_99 (by decide) (by first | assumption | exact hwf _ _ | exact dt_b32 _ | omega | exact ⟨by omega, by omega⟩ | decide | exact ⟨by simp (disch := omega) only [dt_up_s, dt_up_k, dt_up_n]; omega, by simp (disch := omega) only [dt_up_s, dt_up_k, dt_up_n]; omega⟩) (by first | assumption | exact hwf _ _ | exact dt_b32 _ | omega | exact ⟨by omega, by omega⟩ | decide | exact ⟨by simp (disch := omega) only [dt_up_s, dt_up_k, dt_up_n]; omega, by simp (disch := omega) only [dt_up_s, dt_up_k, dt_up_n]; omega⟩) (fun c4 => ?_) (fun c4 => ?_)
                    · skip
                      have hte : tg.take w = tg := List.take_of_length_le (by omega)
                      rw [hte] at hfl ⊢
                      refine dt_iload dX8_surelySaid_135 rfl ?_
                      refine dt_iload dX8_surelySaid_137 rfl ?_
                      refine dt_cm_ne (tgt := 145) dX8_surelySaid_139 (by decide) (by first | assumption | exact hwf _ _ | exact dt_b32 _ | omega | exact ⟨by omega, by omega⟩ | decide | exact ⟨by simp (disch := omega) only [dt_up_s, dt_up_k, dt_up_n]; omega, by simp (disch := omega) only [dt_up_s, dt_up_k, dt_up_n]; omega⟩) (by first | assumption | exact hwf _ _ | exact dt_b32 _ | omega | exact ⟨by omega, by omega⟩ | decide | exact ⟨by simp (disch := omega) only [dt_up_s, dt_up_k, dt_up_n]; omega, by simp (disch := omega) only [dt_up_s, dt_up_k, dt_up_n]; omega⟩) (fun c5 => ?_) (fun c5 => ?_)
                      · skip
                        have hval : ((xCnt (fun m => xSF tg m (xSt more m) = m) m : Nat) : Int) = ((xCnt (fun m => xSF tg m (xSt more m) = m) (m + 1) : Nat) : Int) := by rw [xCnt_n (P := (fun m => xSF tg m (xSt more m) = m)) (show ¬ xSF tg m (xSt more m) = m by omega)]
                        refine dt_iinc dX8_surelySaid_145 rfl (by decide) rfl ?_
                        dsimp only [List.set]
                        refine dt_goto (tgt := 69) dX8_surelySaid_148 (by decide) ?_
                        exact dt_lb (ih0 (m + 1) (by omega) (by omega)) ⟨rfl, rfl, rfl, rfl, (dt_ie hval), rfl, trivial⟩
                      · skip
                        have hval : ((xCnt (fun m => xSF tg m (xSt more m) = m) m : Nat) : Int) + 1 = ((xCnt (fun m => xSF tg m (xSt more m) = m) (m + 1) : Nat) : Int) := by rw [xCnt_y (P := (fun m => xSF tg m (xSt more m) = m)) (show xSF tg m (xSt more m) = m by omega)]; rfl
                        refine dt_iinc dX8_surelySaid_142 rfl (by decide) rfl ?_
                        dsimp only [List.set]
                        refine dt_iinc dX8_surelySaid_145 rfl (by decide) rfl ?_
                        dsimp only [List.set]
                        refine dt_goto (tgt := 69) dX8_surelySaid_148 (by decide) ?_
                        exact dt_lb (ih0 (m + 1) (by omega) (by omega)) ⟨rfl, rfl, rfl, rfl, (dt_ie hval), rfl, trivial⟩
                    · skip
                      obtain ⟨wd, hwd⟩ := dt_lg (l := tg) (i := w) (by omega)
                      refine dt_aloadn dX8_surelySaid_102 rfl rfl ?_
                      refine dt_getR dX8_surelySaid_103 pg_X8_32_8 rfl rfl ?_
                      refine dt_iload dX8_surelySaid_106 rfl ?_
                      refine dt_iald dX8_surelySaid_108 rfl (by first | omega | (simp (disch := omega) only [dt_up_s, dt_up_k, dt_up_n]; omega)) (by first | omega | (simp (disch := omega) only [dt_up_s, dt_up_k, dt_up_n]; omega)) (by decide) ?_
                      rw [Int.toNat_natCast, (jm w wd (by omega) hwd).1]
                      have hal := xAll_lt wd.2 (fun r hr => ((o2 wd (List.mem_of_getElem? hwd)).2.2.2.2.2 r hr).2) 0 (by decide)
                      have hal2 : xAll wd.2 < 256 := hal
                      refine dt_iload dX8_surelySaid_109 rfl ?_
                      refine dt_ior dX8_surelySaid_111 ?_
                      rw [dj_or_nn (by omega) (by omega)]
                      have hor := Nat.or_lt_two_pow (n := 8) hal2 hm256
                      refine dt_iload dX8_surelySaid_112 rfl ?_
                      refine dt_cm_ne (tgt := 129) dX8_surelySaid_114 (by decide) (by first | assumption | exact hwf _ _ | exact dt_b32 _ | omega | exact ⟨by omega, by omega⟩ | decide | exact ⟨by simp (disch := omega) only [dt_up_s, dt_up_k, dt_up_n]; omega, by simp (disch := omega) only [dt_up_s, dt_up_k, dt_up_n]; omega⟩) (by first | assumption | exact hwf _ _ | exact dt_b32 _ | omega | exact ⟨by omega, by omega⟩ | decide | exact ⟨by simp (disch := omega) only [dt_up_s, dt_up_k, dt_up_n]; omega, by simp (disch := omega) only [dt_up_s, dt_up_k, dt_up_n]; omega⟩) (fun c6 => ?_) (fun c6 => ?_)
                      · skip
                        have hval : (((xSF (tg.take w) m (xSt more m) : Nat)) : Int) = ((xSF (tg.take (w + 1)) m (xSt more m) : Nat) : Int) := by unfold xSF; rw [fl_s hwd, xSr_n (fun z => by have := xAll_i.mpr z; omega)]
                        refine dt_iinc dX8_surelySaid_129 rfl (by decide) rfl ?_
                        dsimp only [List.set]
                        refine dt_goto (tgt := 96) dX8_surelySaid_132 (by decide) ?_
                        exact dt_lb (ih (w + 1) (by omega) (by omega)) ⟨rfl, rfl, rfl, rfl, rfl, rfl, (dt_ie hval), rfl, trivial⟩
                      · skip
                        have hval : ((xSF (tg.take w) m (xSt more m) ||| xCom wd.2 : Nat) : Int) = ((xSF (tg.take (w + 1)) m (xSt more m) : Nat) : Int) := by unfold xSF; rw [fl_s hwd, xSr_y (xAll_i.mp (by omega))]
                        refine dt_iload dX8_surelySaid_117 rfl ?_
                        refine dt_aloadn dX8_surelySaid_119 rfl rfl ?_
                        refine dt_getR dX8_surelySaid_120 pg_X8_35_8 rfl rfl ?_
                        refine dt_iload dX8_surelySaid_123 rfl ?_
                        refine dt_iald dX8_surelySaid_125 rfl (by first | omega | (simp (disch := omega) only [dt_up_s, dt_up_k, dt_up_n]; omega)) (by first | omega | (simp (disch := omega) only [dt_up_s, dt_up_k, dt_up_n]; omega)) (by decide) ?_
                        rw [Int.toNat_natCast, (jm w wd (by omega) hwd).2]
                        have hcl2 := xCom_lt wd.2
                        refine dt_ior dX8_surelySaid_126 ?_
                        rw [dj_or_nn (by omega) (by omega)]
                        refine dt_istore dX8_surelySaid_127 (by decide) rfl ?_
                        dsimp only [List.set]
                        refine dt_iinc dX8_surelySaid_129 rfl (by decide) rfl ?_
                        dsimp only [List.set]
                        refine dt_goto (tgt := 96) dX8_surelySaid_132 (by decide) ?_
                        exact dt_lb (ih (w + 1) (by omega) (by omega)) ⟨rfl, rfl, rfl, rfl, rfl, rfl, (dt_ie hval), rfl, trivial⟩
                exact dt_lb (lp96 9 0 (by omega) (by omega)) ⟨rfl, rfl, rfl, rfl, rfl, rfl, (dt_ie hst), rfl, trivial⟩
              · skip
                have hst : (more : Int) = ((xSt more m : Nat) : Int) := by unfold xSt; rw [if_pos (by omega)]
                have hst8 : xSt more m < 256 := by omega
                refine dt_iloadn dX8_surelySaid_86 rfl rfl ?_
                refine dt_goto (tgt := 91) dX8_surelySaid_87 (by decide) ?_
                refine dt_istore dX8_surelySaid_91 (by decide) rfl ?_
                dsimp only [List.set]
                refine dt_iconst dX8_surelySaid_93 ?_
                refine dt_istore dX8_surelySaid_94 (by decide) rfl ?_
                dsimp only [List.set]
                have lp96 : ∀ (fu : Nat) (w : Nat), (tg.length : Int) - w < (fu : Int) → (w ≤ tg.length) →  dt_V mX8_surelySaid (dt_rm 4 0 0) (dt_MC (fun v sh2 σ2 => v = some (dt_I ((xSure tg more : Nat) : Int)) ∧ sh2 = dt_SH ++ ex ∧ (∀ b, b ≠ 37 → b ≠ 38 → σ2 b = σ b)) 0 0) 0 0 96 [some (dt_R 31), some (dt_I (t : Int)), some (dt_I (more : Int)), some (dt_I (tg.length : Int)), some (dt_I ((xCnt (fun m => xSF tg m (xSt more m) = m) m : Nat) : Int)), some (dt_I (m : Int)), some (dt_I ((xSF (tg.take w) m (xSt more m) : Nat) : Int)), some (dt_I (w : Int))] [] (dt_SH ++ ex) σ1 := by
                  intro fu
                  induction fu with
                  | zero =>
                    intro w hm wl2
                    exfalso
                    omega
                  | succ fu ih =>
                    intro w hm wl2
                    refine dt_wfV fun hwf => ?_
                    have hfl := xSF_lt (m := m) (tg.take w) (xSt more m) hst8
                    refine dt_iload dX8_surelySaid_96 rfl ?_
                    refine dt_iloadn dX8_surelySaid_98 rfl rfl ?_
                    refine dt_cm_ge (tgt := 135) dX8_surelySaid_99 (by decide) (by first | assumption | exact hwf _ _ | exact dt_b32 _ | omega | exact ⟨by omega, by omega⟩ | decide | exact ⟨by simp (disch := omega) only [dt_up_s, dt_up_k, dt_up_n]; omega, by simp (disch := omega) only [dt_up_s, dt_up_k, dt_up_n]; omega⟩) (by first | assumption | exact hwf _ _ | exact dt_b32 _ | omega | exact ⟨by omega, by omega⟩ | decide | exact ⟨by simp (disch := omega) only [dt_up_s, dt_up_k, dt_up_n]; omega, by simp (disch := omega) only [dt_up_s, dt_up_k, dt_up_n]; omega⟩) (fun c7 => ?_) (fun c7 => ?_)
                    · skip
                      have hte : tg.take w = tg := List.take_of_length_le (by omega)
                      rw [hte] at hfl ⊢
                      refine dt_iload dX8_surelySaid_135 rfl ?_
                      refine dt_iload dX8_surelySaid_137 rfl ?_
                      refine dt_cm_ne (tgt := 145) dX8_surelySaid_139 (by decide) (by first | assumption | exact hwf _ _ | exact dt_b32 _ | omega | exact ⟨by omega, by omega⟩ | decide | exact ⟨by simp (disch := omega) only [dt_up_s, dt_up_k, dt_up_n]; omega, by simp (disch := omega) only [dt_up_s, dt_up_k, dt_up_n]; omega⟩) (by first | assumption | exact hwf _ _ | exact dt_b32 _ | omega | exact ⟨by omega, by omega⟩ | decide | exact ⟨by simp (disch := omega) only [dt_up_s, dt_up_k, dt_up_n]; omega, by simp (disch := omega) only [dt_up_s, dt_up_k, dt_up_n]; omega⟩) (fun c8 => ?_) (fun c8 => ?_)
                      · skip
                        have hval : ((xCnt (fun m => xSF tg m (xSt more m) = m) m : Nat) : Int) = ((xCnt (fun m => xSF tg m (xSt more m) = m) (m + 1) : Nat) : Int) := by rw [xCnt_n (P := (fun m => xSF tg m (xSt more m) = m)) (show ¬ xSF tg m (xSt more m) = m by omega)]
                        refine dt_iinc dX8_surelySaid_145 rfl (by decide) rfl ?_
                        dsimp only [List.set]
                        refine dt_goto (tgt := 69) dX8_surelySaid_148 (by decide) ?_
                        exact dt_lb (ih0 (m + 1) (by omega) (by omega)) ⟨rfl, rfl, rfl, rfl, (dt_ie hval), rfl, trivial⟩
                      · skip
                        have hval : ((xCnt (fun m => xSF tg m (xSt more m) = m) m : Nat) : Int) + 1 = ((xCnt (fun m => xSF tg m (xSt more m) = m) (m + 1) : Nat) : Int) := by rw [xCnt_y (P := (fun m => xSF tg m (xSt more m) = m)) (show xSF tg m (xSt more m) = m by omega)]; rfl
                        refine dt_iinc dX8_surelySaid_142 rfl (by decide) rfl ?_
                        dsimp only [List.set]
                        refine dt_iinc dX8_surelySaid_145 rfl (by decide) rfl ?_
                        dsimp only [List.set]
                        refine dt_goto (tgt := 69) dX8_surelySaid_148 (by decide) ?_
                        exact dt_lb (ih0 (m + 1) (by omega) (by omega)) ⟨rfl, rfl, rfl, rfl, (dt_ie hval), rfl, trivial⟩
                    · skip
                      obtain ⟨wd, hwd⟩ := dt_lg (l := tg) (i := w) (by omega)
                      refine dt_aloadn dX8_surelySaid_102 rfl rfl ?_
                      refine dt_getR dX8_surelySaid_103 pg_X8_32_8 rfl rfl ?_
                      refine dt_iload dX8_surelySaid_106 rfl ?_
                      refine dt_iald dX8_surelySaid_108 rfl (by first | omega | (simp (disch := omega) only [dt_up_s, dt_up_k, dt_up_n]; omega)) (by first | omega | (simp (disch := omega) only [dt_up_s, dt_up_k, dt_up_n]; omega)) (by decide) ?_
                      rw [Int.toNat_natCast, (jm w wd (by omega) hwd).1]
                      have hal := xAll_lt wd.2 (fun r hr => ((o2 wd (List.mem_of_getElem? hwd)).2.2.2.2.2 r hr).2) 0 (by decide)
                      have hal2 : xAll wd.2 < 256 := hal
                      refine dt_iload dX8_surelySaid_109 rfl ?_
                      refine dt_ior dX8_surelySaid_111 ?_
                      rw [dj_or_nn (by omega) (by omega)]
                      have hor := Nat.or_lt_two_pow (n := 8) hal2 hm256
                      refine dt_iload dX8_surelySaid_112 rfl ?_
                      refine dt_cm_ne (tgt := 129) dX8_surelySaid_114 (by decide) (by first | assumption | exact hwf _ _ | exact dt_b32 _ | omega | exact ⟨by omega, by omega⟩ | decide | exact ⟨by simp (disch := omega) only [dt_up_s, dt_up_k, dt_up_n]; omega, by simp (disch := omega) only [dt_up_s, dt_up_k, dt_up_n]; omega⟩) (by first | assumption | exact hwf _ _ | exact dt_b32 _ | omega | exact ⟨by omega, by omega⟩ | decide | exact ⟨by simp (disch := omega) only [dt_up_s, dt_up_k, dt_up_n]; omega, by simp (disch := omega) only [dt_up_s, dt_up_k, dt_up_n]; omega⟩) (fun c9 => ?_) (fun c9 => ?_)
                      · skip
                        have hval : (((xSF (tg.take w) m (xSt more m) : Nat)) : Int) = ((xSF (tg.take (w + 1)) m (xSt more m) : Nat) : Int) := by unfold xSF; rw [fl_s hwd, xSr_n (fun z => by have := xAll_i.mpr z; omega)]
                        refine dt_iinc dX8_surelySaid_129 rfl (by decide) rfl ?_
                        dsimp only [List.set]
                        refine dt_goto (tgt := 96) dX8_surelySaid_132 (by decide) ?_
                        exact dt_lb (ih (w + 1) (by omega) (by omega)) ⟨rfl, rfl, rfl, rfl, rfl, rfl, (dt_ie hval), rfl, trivial⟩
                      · skip
                        have hval : ((xSF (tg.take w) m (xSt more m) ||| xCom wd.2 : Nat) : Int) = ((xSF (tg.take (w + 1)) m (xSt more m) : Nat) : Int) := by unfold xSF; rw [fl_s hwd, xSr_y (xAll_i.mp (by omega))]
                        refine dt_iload dX8_surelySaid_117 rfl ?_
                        refine dt_aloadn dX8_surelySaid_119 rfl rfl ?_
                        refine dt_getR dX8_surelySaid_120 pg_X8_35_8 rfl rfl ?_
                        refine dt_iload dX8_surelySaid_123 rfl ?_
                        refine dt_iald dX8_surelySaid_125 rfl (by first | omega | (simp (disch := omega) only [dt_up_s, dt_up_k, dt_up_n]; omega)) (by first | omega | (simp (disch := omega) only [dt_up_s, dt_up_k, dt_up_n]; omega)) (by decide) ?_
                        rw [Int.toNat_natCast, (jm w wd (by omega) hwd).2]
                        have hcl2 := xCom_lt wd.2
                        refine dt_ior dX8_surelySaid_126 ?_
                        rw [dj_or_nn (by omega) (by omega)]
                        refine dt_istore dX8_surelySaid_127 (by decide) rfl ?_
                        dsimp only [List.set]
                        refine dt_iinc dX8_surelySaid_129 rfl (by decide) rfl ?_
                        dsimp only [List.set]
                        refine dt_goto (tgt := 96) dX8_surelySaid_132 (by decide) ?_
                        exact dt_lb (ih (w + 1) (by omega) (by omega)) ⟨rfl, rfl, rfl, rfl, rfl, rfl, (dt_ie hval), rfl, trivial⟩
                exact dt_lb (lp96 9 0 (by omega) (by omega)) ⟨rfl, rfl, rfl, rfl, rfl, rfl, (dt_ie hst), rfl, trivial⟩
        exact dt_lb (lp69 300 0 (by omega) (by omega)) ⟨rfl, rfl, rfl, rfl, rfl, rfl, trivial⟩
      · skip
        obtain ⟨wd, hwd⟩ := dt_lg (l := tg) (i := w) (by omega)
        have hw : xW X t w wd := ⟨tg, htg, hwd⟩
        obtain ⟨w1, w2, w3, w4, w5, w6, w7, w8⟩ := hX.word hw
        have wok := o2 wd (List.mem_of_getElem? hwd)
        have e13 : ((t : Int) * 8 + (w : Int)).toNat = t * 8 + w := by omega
        refine dt_aloadn dX8_surelySaid_23 rfl rfl ?_
        refine dt_getR dX8_surelySaid_24 pg_X8_32_8 rfl rfl ?_
        refine dt_iload dX8_surelySaid_27 rfl ?_
        refine dt_aloadn dX8_surelySaid_29 rfl rfl ?_
        refine dt_getR dX8_surelySaid_30 pg_X8_9_8 rfl rfl ?_
        refine dt_iloadn dX8_surelySaid_33 rfl rfl ?_
        refine dt_iload dX8_surelySaid_34 rfl ?_
        refine dt_xV dX8_surelySaid_36 pc_X8_78 rfl (s_X6_whole dt_p7 ((hX.kept (fun b _ _ => jf b (by omega) (by omega))).hasW hw) (by rw [e13]; rw [jf (7 + 3) (by decide) (by decide)]; exact w7) w5 (fun q r hq => by have := w8 q r hq; rw [show (((t : Int) * 8 + (w : Int)) * 3 + (q : Int)).toNat = (t * 8 + w) * 3 + q by omega]; exact ⟨by rw [jf (7 + 4) (by decide) (by decide)]; exact this, (wok.2.2.2.2.2 r (List.mem_of_getElem? hq)).2⟩)) rfl rfl ⟨by decide, by decide⟩ rfl rfl (Nat.le_of_ble_eq_true rfl) ⟨by decide, by decide⟩ (dt_k3 ?_)
        refine dt_wfV fun hwf => ?_
        refine dt_wfV fun hwf => ?_
        refine dt_iast dX8_surelySaid_39 rfl (by first | omega | (simp (disch := omega) only [dt_up_s, dt_up_k, dt_up_n]; omega)) (by first | omega | (simp (disch := omega) only [dt_up_s, dt_up_k, dt_up_n]; omega)) (by decide) ⟨by omega, by have := xAll_lt wd.2 (fun r hr => (wok.2.2.2.2.2 r hr).2) 0 (by decide); have h2 : xAll wd.2 < 256 := this; omega⟩ ?_
        rw [Int.toNat_natCast]
        refine dt_aloadn dX8_surelySaid_40 rfl rfl ?_
        refine dt_getR dX8_surelySaid_41 pg_X8_35_8 rfl rfl ?_
        refine dt_iload dX8_surelySaid_44 rfl ?_
        refine dt_aloadn dX8_surelySaid_46 rfl rfl ?_
        refine dt_getR dX8_surelySaid_47 pg_X8_9_8 rfl rfl ?_
        refine dt_iloadn dX8_surelySaid_50 rfl rfl ?_
        refine dt_iload dX8_surelySaid_51 rfl ?_
        refine dt_xV dX8_surelySaid_53 pc_X8_81 rfl (s_X6_common dt_p7 ((hX.kept (fun b _ _ => (dt_up_o (by omega)).trans (jf b (by omega) (by omega)))).hasW hw) (by rw [e13, dt_up_o (by decide)]; rw [jf (7 + 3) (by decide) (by decide)]; exact w7) w5 (fun q r hq => by have := w8 q r hq; rw [show (((t : Int) * 8 + (w : Int)) * 3 + (q : Int)).toNat = (t * 8 + w) * 3 + q by omega]; exact ⟨by rw [dt_up_o (by decide), jf (7 + 4) (by decide) (by decide)]; exact this, (wok.2.2.2.2.2 r (List.mem_of_getElem? hq)).2⟩)) rfl rfl ⟨by decide, by decide⟩ rfl rfl (Nat.le_of_ble_eq_true rfl) ⟨by decide, by decide⟩ (dt_k3 ?_)
        refine dt_wfV fun hwf => ?_
        refine dt_iast dX8_surelySaid_56 rfl (by first | omega | (simp (disch := omega) only [dt_up_s, dt_up_k, dt_up_n]; omega)) (by first | omega | (simp (disch := omega) only [dt_up_s, dt_up_k, dt_up_n]; omega)) (by decide) ⟨by omega, by have := xCom_lt wd.2; omega⟩ ?_
        rw [Int.toNat_natCast]
        refine dt_iinc dX8_surelySaid_57 rfl (by decide) rfl ?_
        dsimp only [List.set]
        refine dt_goto (tgt := 17) dX8_surelySaid_60 (by decide) ?_
        have jm2 : ∀ (j : Nat) (wd2 : Nat × List Nat), j < w + 1 → tg[j]? = some wd2 → dt_up (dt_up σ1 37 w ((xAll wd.2 : Nat) : Int)) 38 w ((xCom wd.2 : Nat) : Int) 37 j = (xAll wd2.2 : Nat) ∧ dt_up (dt_up σ1 37 w ((xAll wd.2 : Nat) : Int)) 38 w ((xCom wd.2 : Nat) : Int) 38 j = (xCom wd2.2 : Nat) := fun j wd2 hj h2 => by
          by_cases e : j = w
          · subst e
            obtain rfl := Option.some.inj (hwd.symm.trans h2)
            exact ⟨by rw [dt_up_n (by decide), dt_up_s], dt_up_s⟩
          · obtain ⟨a, b⟩ := jm j wd2 (by omega) h2
            exact ⟨by rw [dt_up_n (by decide), dt_up_k e]; exact a, by rw [dt_up_k e, dt_up_n (by decide)]; exact b⟩
        exact dt_lb (ih (w + 1) _ (by omega) (by omega) (fun b h1 h2 => by rw [dt_up_o h2, dt_up_o h1]; exact jf b h1 h2) jm2) ⟨rfl, rfl, rfl, rfl, rfl, trivial⟩
  exact dt_lb (lp17 9 0 σ (by omega) (by omega) (fun b _ _ => rfl) (fun j wd hj => absurd hj (Nat.not_lt_zero j))) ⟨rfl, rfl, rfl, rfl, rfl, trivial⟩
theorem s_X8_tongueToLetIn {ex : List dt_Shp} {σ : dt_Mem} {X : dX} {m : Nat} (hX : cPort σ 7 X) (hok : dX_ok X) (hm8 : m < 256) : dt_Sp mX8_tongueToLetIn 5 0 0 [dt_R 31, dt_I (m : Int)] (dt_SH ++ ex) σ (fun v sh2 σ2 => v = some (dt_I (xLet X m X.1.length).1) ∧ sh2 = dt_SH ++ ex ∧ (∀ b, b ≠ 37 → b ≠ 38 → σ2 b = σ b)) := by
  refine dt_Sp_of (by decide) (Nat.le_of_ble_eq_true rfl) ?_
  refine dt_wfV fun hwf => ?_
  have e5 := hX.t
  have e6 := hX.1.1
  show dt_V _ _ _ 0 0 0 [some (dt_R 31), some (dt_I (m : Int)), none, none, none, none] [] _ _
  refine dt_ldc dX8_tongueToLetIn_0 pk_X8_84 ?_
  refine dt_istoren dX8_tongueToLetIn_2 rfl (by decide) rfl ?_
  dsimp only [List.set]
  refine dt_ldc dX8_tongueToLetIn_3 pk_X8_84 ?_
  refine dt_istoren dX8_tongueToLetIn_5 rfl (by decide) rfl ?_
  dsimp only [List.set]
  refine dt_iconst dX8_tongueToLetIn_6 ?_
  refine dt_istore dX8_tongueToLetIn_7 (by decide) rfl ?_
  dsimp only [List.set]
  have lp9 : ∀ (fu : Nat) (t : Nat) (σ1 : dt_Mem), (X.1.length : Int) - t < (fu : Int) → (t ≤ X.1.length) → (∀ b, b ≠ 37 → b ≠ 38 → σ1 b = σ b) →  dt_V mX8_tongueToLetIn (dt_rm 5 0 0) (dt_MC (fun v sh2 σ2 => v = some (dt_I (xLet X m X.1.length).1) ∧ sh2 = dt_SH ++ ex ∧ (∀ b, b ≠ 37 → b ≠ 38 → σ2 b = σ b)) 0 0) 0 0 9 [some (dt_R 31), some (dt_I (m : Int)), some (dt_I (xLet X m t).1), some (dt_I (xLet X m t).2), some (dt_I (t : Int)), none] [] (dt_SH ++ ex) σ1 := by
    intro fu
    induction fu with
    | zero =>
      intro t σ1 hm tl jf
      exfalso
      omega
    | succ fu ih =>
      intro t σ1 hm tl jf
      refine dt_wfV fun hwf => ?_
      have hX1 : cPort σ1 7 X := hX.kept (fun b _ _ => jf b (by omega) (by omega))
      have e5b := hX1.t
      have xin := xLet_in X m t (by omega)
      refine dt_iload dX8_tongueToLetIn_9 rfl ?_
      refine dt_aloadn dX8_tongueToLetIn_11 rfl rfl ?_
      refine dt_getR dX8_tongueToLetIn_12 pg_X8_9_8 rfl rfl ?_
      refine dt_xV dX8_tongueToLetIn_15 pc_X8_85 rfl (s_X6_tongues dt_p7) rfl rfl ⟨by decide, by decide⟩ rfl rfl (Nat.le_of_ble_eq_true rfl) ⟨by decide, by decide⟩ (dt_k3 ?_)
      refine dt_cm_ge (tgt := 70) dX8_tongueToLetIn_18 (by decide) (by first | assumption | exact hwf _ _ | exact dt_b32 _ | omega | exact ⟨by omega, by omega⟩ | decide | exact ⟨by simp (disch := omega) only [dt_up_s, dt_up_k, dt_up_n]; omega, by simp (disch := omega) only [dt_up_s, dt_up_k, dt_up_n]; omega⟩) (by first | assumption | exact hwf _ _ | exact dt_b32 _ | omega | exact ⟨by omega, by omega⟩ | decide | exact ⟨by simp (disch := omega) only [dt_up_s, dt_up_k, dt_up_n]; omega, by simp (disch := omega) only [dt_up_s, dt_up_k, dt_up_n]; omega⟩) (fun c1 => ?_) (fun c1 => ?_)
      · skip
        refine dt_iloadn dX8_tongueToLetIn_70 rfl rfl ?_
        refine dt_iret dX8_tongueToLetIn_71 rfl (by decide) (by decide) ?_
        rw [show X.1.length = t by omega]
        exact ⟨rfl, rfl, jf⟩
      · skip
        obtain ⟨tg, htg⟩ := dt_lg (l := X.1) (i := t) (by omega)
        obtain ⟨g1, g2, g3⟩ := hX1.2.2.2.2.1 t tg htg
        refine dt_aloadn dX8_tongueToLetIn_21 rfl rfl ?_
        refine dt_getR dX8_tongueToLetIn_22 pg_X8_9_8 rfl rfl ?_
        refine dt_iload dX8_tongueToLetIn_25 rfl ?_
        refine dt_xV dX8_tongueToLetIn_27 pc_X8_65 rfl (s_X6_wordsOf dt_p7 ⟨by omega, by omega, by omega⟩) rfl rfl ⟨by decide, by decide⟩ rfl rfl (Nat.le_of_ble_eq_true rfl) ⟨by decide, by decide⟩ (dt_k3 ?_)
        rw [Int.toNat_natCast, g2]
        refine dt_bipush dX8_tongueToLetIn_30 (by decide) ?_
        refine dt_cm_ge (tgt := 64) dX8_tongueToLetIn_32 (by decide) (by first | assumption | exact hwf _ _ | exact dt_b32 _ | omega | exact ⟨by omega, by omega⟩ | decide | exact ⟨by simp (disch := omega) only [dt_up_s, dt_up_k, dt_up_n]; omega, by simp (disch := omega) only [dt_up_s, dt_up_k, dt_up_n]; omega⟩) (by first | assumption | exact hwf _ _ | exact dt_b32 _ | omega | exact ⟨by omega, by omega⟩ | decide | exact ⟨by simp (disch := omega) only [dt_up_s, dt_up_k, dt_up_n]; omega, by simp (disch := omega) only [dt_up_s, dt_up_k, dt_up_n]; omega⟩) (fun c2 => ?_) (fun c2 => ?_)
        · skip
          have hk : ¬ tg.length < 8 := by omega
          refine dt_iinc dX8_tongueToLetIn_64 rfl (by decide) rfl ?_
          dsimp only [List.set]
          refine dt_goto (tgt := 9) dX8_tongueToLetIn_67 (by decide) ?_
          have hL := xLet_k (m := m) htg hk
          exact dt_lb (ih (t + 1) σ1 (by omega) (by omega) jf) ⟨rfl, rfl, (dt_ie (by rw [hL])), (dt_ie (by rw [hL])), rfl, trivial⟩
        · skip
          have hk : tg.length < 8 := by omega
          have s1 := xSure_le tg m
          have s2 := xSure_le tg 0
          refine dt_aloadn dX8_tongueToLetIn_35 rfl rfl ?_
          refine dt_iload dX8_tongueToLetIn_36 rfl ?_
          refine dt_iloadn dX8_tongueToLetIn_38 rfl rfl ?_
          refine dt_xV dX8_tongueToLetIn_39 pc_X8_89 rfl (s_X8_surelySaid hX1 hok htg hm8) rfl rfl ⟨by decide, by decide⟩ rfl rfl (Nat.le_of_ble_eq_true rfl) ⟨by decide, by decide⟩ ?_
          intro va sha σa hqa
          obtain ⟨rfl, hsa, hfa⟩ := hqa
          obtain rfl := hsa.symm
          refine dt_aloadn dX8_tongueToLetIn_42 rfl rfl ?_
          refine dt_iload dX8_tongueToLetIn_43 rfl ?_
          refine dt_iconst dX8_tongueToLetIn_45 ?_
          have hXa : cPort σa 7 X := hX1.kept (fun b _ _ => hfa b (by omega) (by omega))
          rw [show (0 : Int) = ((0 : Nat) : Int) from rfl]
          refine dt_xV dX8_tongueToLetIn_46 pc_X8_89 rfl (s_X8_surelySaid hXa hok htg (by decide)) rfl rfl ⟨by decide, by decide⟩ rfl rfl (Nat.le_of_ble_eq_true rfl) ⟨by decide, by decide⟩ ?_
          intro vb shb σb hqb
          obtain ⟨rfl, hsb, hfb⟩ := hqb
          obtain rfl := hsb.symm
          refine dt_isub dX8_tongueToLetIn_49 ?_
          refine dt_istore dX8_tongueToLetIn_50 (by decide) rfl ?_
          dsimp only [List.set]
          refine dt_iload dX8_tongueToLetIn_52 rfl ?_
          refine dt_iloadn dX8_tongueToLetIn_54 rfl rfl ?_
          refine dt_cm_le (tgt := 64) dX8_tongueToLetIn_55 (by decide) (by first | assumption | exact hwf _ _ | exact dt_b32 _ | omega | exact ⟨by omega, by omega⟩ | decide | exact ⟨by simp (disch := omega) only [dt_up_s, dt_up_k, dt_up_n]; omega, by simp (disch := omega) only [dt_up_s, dt_up_k, dt_up_n]; omega⟩) (by first | assumption | exact hwf _ _ | exact dt_b32 _ | omega | exact ⟨by omega, by omega⟩ | decide | exact ⟨by simp (disch := omega) only [dt_up_s, dt_up_k, dt_up_n]; omega, by simp (disch := omega) only [dt_up_s, dt_up_k, dt_up_n]; omega⟩) (fun c3 => ?_) (fun c3 => ?_)
          · skip
            have hg : ¬ (xLet X m t).2 < (xSure tg m : Int) - (xSure tg 0 : Int) := by omega
            refine dt_iinc dX8_tongueToLetIn_64 rfl (by decide) rfl ?_
            dsimp only [List.set]
            refine dt_goto (tgt := 9) dX8_tongueToLetIn_67 (by decide) ?_
            have hL := xLet_n (m := m) htg hk hg
            exact dt_lb (ih (t + 1) σb (by omega) (by omega) (fun b h1 h2 => (hfb b h1 h2).trans ((hfa b h1 h2).trans (jf b h1 h2)))) ⟨rfl, rfl, (dt_ie (by rw [hL])), (dt_ie (by rw [hL])), rfl, trivial⟩
          · skip
            have hg : (xLet X m t).2 < (xSure tg m : Int) - (xSure tg 0 : Int) := by omega
            refine dt_iload dX8_tongueToLetIn_58 rfl ?_
            refine dt_istoren dX8_tongueToLetIn_60 rfl (by decide) rfl ?_
            dsimp only [List.set]
            refine dt_iload dX8_tongueToLetIn_61 rfl ?_
            refine dt_istoren dX8_tongueToLetIn_63 rfl (by decide) rfl ?_
            dsimp only [List.set]
            refine dt_iinc dX8_tongueToLetIn_64 rfl (by decide) rfl ?_
            dsimp only [List.set]
            refine dt_goto (tgt := 9) dX8_tongueToLetIn_67 (by decide) ?_
            have hL := xLet_y (m := m) htg hk hg
            exact dt_lb (ih (t + 1) σb (by omega) (by omega) (fun b h1 h2 => (hfb b h1 h2).trans ((hfa b h1 h2).trans (jf b h1 h2)))) ⟨rfl, rfl, (dt_ie (by rw [hL])), (dt_ie (by rw [hL])), rfl, trivial⟩
  exact dt_lb (lp9 9 0 σ (by omega) (by omega) (fun b _ _ => rfl)) ⟨rfl, rfl, rfl, rfl, rfl, trivial⟩
theorem s_X11_sayable {ex : List dt_Shp} {σ : dt_Mem} {A : dS} {day what : Int} (hI : cInv ex σ A) (h_day : dt_in32 day) (h_what : dt_in32 what) : dt_Sp mX11_sayable 5 0 0 [dt_R 0, dt_I day, dt_I what] (dt_SH ++ ex) σ (fun v sh2 σ2 => v = some (dt_I (oSayable A day what).1) ∧ sh2 = dt_SH ++ ex ∧ cEnd ex σ σ2 (oSayable A day what).2) := by
  refine dt_Sp_of (by decide) (Nat.le_of_ble_eq_true rfl) ?_
  refine dt_wfV fun hwf => ?_
  have hc := hI.2.2.1.1
  have hok := hI.2.2.1.2.1
  have e5 := hc.t
  have e6 := hc.p
  have e7 := hc.1
  show dt_V _ _ _ 0 0 0 [some (dt_R 0), some (dt_I day), some (dt_I what), none] [] _ _
  refine dt_aloadn dX11_sayable_0 rfl rfl ?_
  refine dt_xV dX11_sayable_1 pc_X11_132 rfl s_X11_hasNoPort rfl rfl ⟨by decide, by decide⟩ rfl rfl (Nat.le_of_ble_eq_true rfl) ⟨by decide, by decide⟩ (dt_k3 ?_)
  refine dt_if_eq (tgt := 10) dX11_sayable_4 (by decide) (by first | assumption | exact hwf _ _ | exact dt_b32 _ | omega | exact ⟨by omega, by omega⟩ | decide | exact ⟨by simp (disch := omega) only [dt_up_s, dt_up_k, dt_up_n]; omega, by simp (disch := omega) only [dt_up_s, dt_up_k, dt_up_n]; omega⟩) (fun c1 => ?_) (fun c1 => ?_)
  · skip
    try simp only [dt_b0, dt_b1, Decidable.not_not, Classical.not_not] at c1
    refine dt_iloadn dX11_sayable_10 rfl rfl ?_
    refine dt_xS dX11_sayable_11 pc_X11_169 (s_X11_isDay (by first | assumption | exact hwf _ _ | exact dt_b32 _ | omega | exact ⟨by omega, by omega⟩ | decide | exact ⟨by simp (disch := omega) only [dt_up_s, dt_up_k, dt_up_n]; omega, by simp (disch := omega) only [dt_up_s, dt_up_k, dt_up_n]; omega⟩)) rfl rfl ⟨by decide, by decide⟩ (Nat.le_of_ble_eq_true rfl) ⟨by decide, by decide⟩ (dt_k3 ?_)
    refine dt_if_eq (tgt := 26) dX11_sayable_14 (by decide) (by first | assumption | exact hwf _ _ | exact dt_b32 _ | omega | exact ⟨by omega, by omega⟩ | decide | exact ⟨by simp (disch := omega) only [dt_up_s, dt_up_k, dt_up_n]; omega, by simp (disch := omega) only [dt_up_s, dt_up_k, dt_up_n]; omega⟩) (fun c2 => ?_) (fun c2 => ?_)
    · skip
      try simp only [dt_b0, dt_b1, Decidable.not_not, Classical.not_not] at c2
      refine dt_ldc dX11_sayable_26 pk_X11_74 ?_
      refine dt_iret dX11_sayable_28 rfl (by decide) (by decide) ?_
      have e : oSayable A day what = (-1000001, A) := by
        unfold oSayable
        rw [if_neg (fun q => by have := dt_nn.mpr q; omega), if_pos (by omega)]
      rw [e]
      exact ⟨rfl, rfl, hI, fun b _ _ => rfl⟩
    · skip
      try simp only [dt_b0, dt_b1, Decidable.not_not, Classical.not_not] at c2
      refine dt_iloadn dX11_sayable_17 rfl rfl ?_
      refine dt_iconst dX11_sayable_18 ?_
      refine dt_iconst dX11_sayable_19 ?_
      refine dt_xS dX11_sayable_20 pc_X11_70 (s_X11_isWithin (by first | assumption | exact hwf _ _ | exact dt_b32 _ | omega | exact ⟨by omega, by omega⟩ | decide | exact ⟨by simp (disch := omega) only [dt_up_s, dt_up_k, dt_up_n]; omega, by simp (disch := omega) only [dt_up_s, dt_up_k, dt_up_n]; omega⟩) (by first | assumption | exact hwf _ _ | exact dt_b32 _ | omega | exact ⟨by omega, by omega⟩ | decide | exact ⟨by simp (disch := omega) only [dt_up_s, dt_up_k, dt_up_n]; omega, by simp (disch := omega) only [dt_up_s, dt_up_k, dt_up_n]; omega⟩) (by first | assumption | exact hwf _ _ | exact dt_b32 _ | omega | exact ⟨by omega, by omega⟩ | decide | exact ⟨by simp (disch := omega) only [dt_up_s, dt_up_k, dt_up_n]; omega, by simp (disch := omega) only [dt_up_s, dt_up_k, dt_up_n]; omega⟩)) rfl rfl ⟨by decide, by decide⟩ (Nat.le_of_ble_eq_true rfl) ⟨by decide, by decide⟩ (dt_k3 ?_)
      refine dt_if_ne (tgt := 29) dX11_sayable_23 (by decide) (by first | assumption | exact hwf _ _ | exact dt_b32 _ | omega | exact ⟨by omega, by omega⟩ | decide | exact ⟨by simp (disch := omega) only [dt_up_s, dt_up_k, dt_up_n]; omega, by simp (disch := omega) only [dt_up_s, dt_up_k, dt_up_n]; omega⟩) (fun c3 => ?_) (fun c3 => ?_)
      · skip
        try simp only [dt_b0, dt_b1, Decidable.not_not, Classical.not_not] at c3
        refine dt_aloadn dX11_sayable_29 rfl rfl ?_
        refine dt_getR dX11_sayable_30 pg_X11_26_11 rfl rfl ?_
        refine dt_iloadn dX11_sayable_33 rfl rfl ?_
        refine dt_xV dX11_sayable_34 pc_X11_172 dt_p7.1 (s_X6_tongueOf dt_p7 (by omega) (by omega) (by omega)) rfl rfl ⟨by decide, by decide⟩ rfl rfl (Nat.le_of_ble_eq_true rfl) ⟨by decide, by decide⟩ (dt_k3 ?_)
        rw [e5]
        obtain ⟨t, ht⟩ : ∃ t : Nat, day % ((sN A).1.length : Int) = t := ⟨(day % ((sN A).1.length : Int)).toNat, by have := Int.emod_nonneg day (b := ((sN A).1.length : Int)) (by omega); omega⟩
        have ht7 : t < (sN A).1.length := by have := Int.emod_lt_of_pos day (b := ((sN A).1.length : Int)) (by omega); omega
        rw [ht]
        obtain ⟨tg, htg⟩ := dt_lg ht7
        refine dt_istoren dX11_sayable_37 rfl (by decide) rfl ?_
        dsimp only [List.set]
        refine dt_iloadn dX11_sayable_38 rfl rfl ?_
        refine dt_if_ne (tgt := 53) dX11_sayable_39 (by decide) (by first | assumption | exact hwf _ _ | exact dt_b32 _ | omega | exact ⟨by omega, by omega⟩ | decide | exact ⟨by simp (disch := omega) only [dt_up_s, dt_up_k, dt_up_n]; omega, by simp (disch := omega) only [dt_up_s, dt_up_k, dt_up_n]; omega⟩) (fun c4 => ?_) (fun c4 => ?_)
        · skip
          refine dt_aloadn dX11_sayable_53 rfl rfl ?_
          refine dt_getR dX11_sayable_54 pg_X11_44_11 rfl rfl ?_
          refine dt_iloadn dX11_sayable_57 rfl rfl ?_
          refine dt_iconst dX11_sayable_58 ?_
          rw [show (0 : Int) = ((0 : Nat) : Int) from rfl]
          refine dt_xV dX11_sayable_59 pc_X11_192 rfl (s_X8_surelySaid hc hok htg (by decide)) rfl rfl ⟨by decide, by decide⟩ rfl rfl (Nat.le_of_ble_eq_true rfl) ⟨by decide, by decide⟩ ?_
          intro vs shs σs hqs
          obtain ⟨rfl, hss, hfs⟩ := hqs
          obtain rfl := hss.symm
          refine dt_iret dX11_sayable_62 rfl (by decide) (by decide) ?_
          have e : oSayable A day what = (((xSure tg 0 : Nat) : Int), A) := by
            unfold oSayable
            rw [if_neg (fun q => by have := dt_nn.mpr q; omega), if_neg (by omega), ht, Int.toNat_natCast, dt_gd htg, if_neg (by omega)]
          rw [e]
          exact ⟨rfl, rfl, hI.sy (fun b hb => hfs b (by omega) (by omega)), fun b h1 h2 => hfs b (by omega) (by omega)⟩
        · skip
          refine dt_aloadn dX11_sayable_42 rfl rfl ?_
          refine dt_getR dX11_sayable_43 pg_X11_44_11 rfl rfl ?_
          refine dt_iloadn dX11_sayable_46 rfl rfl ?_
          refine dt_xV dX11_sayable_47 pc_X11_189 rfl (s_X8_perhapsSaid hc hok htg) rfl rfl ⟨by decide, by decide⟩ rfl rfl (Nat.le_of_ble_eq_true rfl) ⟨by decide, by decide⟩ ?_
          intro vs shs σs hqs
          obtain ⟨rfl, hss, hfs⟩ := hqs
          obtain rfl := hss.symm
          refine dt_goto (tgt := 62) dX11_sayable_50 (by decide) ?_
          refine dt_iret dX11_sayable_62 rfl (by decide) (by decide) ?_
          have e : oSayable A day what = (((xCnt (xCl (xHas tg)) 256 : Nat) : Int), A) := by
            unfold oSayable
            rw [if_neg (fun q => by have := dt_nn.mpr q; omega), if_neg (by omega), ht, Int.toNat_natCast, dt_gd htg, if_pos (by omega)]
          rw [e]
          exact ⟨rfl, rfl, hI.sy (fun b hb => hfs b (by omega)), fun b h1 h2 => hfs b (by omega)⟩
      · skip
        try simp only [dt_b0, dt_b1, Decidable.not_not, Classical.not_not] at c3
        refine dt_ldc dX11_sayable_26 pk_X11_74 ?_
        refine dt_iret dX11_sayable_28 rfl (by decide) (by decide) ?_
        have e : oSayable A day what = (-1000001, A) := by
          unfold oSayable
          rw [if_neg (fun q => by have := dt_nn.mpr q; omega), if_pos (by omega)]
        rw [e]
        exact ⟨rfl, rfl, hI, fun b _ _ => rfl⟩
  · skip
    try simp only [dt_b0, dt_b1, Decidable.not_not, Classical.not_not] at c1
    refine dt_ldc dX11_sayable_7 pk_X11_136 ?_
    refine dt_iret dX11_sayable_9 rfl (by decide) (by decide) ?_
    have e : oSayable A day what = (-1000002, A) := by
      unfold oSayable
      rw [if_pos (dt_nn.mp (by omega))]
    rw [e]
    exact ⟨rfl, rfl, hI, fun b _ _ => rfl⟩
theorem s_X11_letIn {ex : List dt_Shp} {σ : dt_Mem} {A : dS} {m : Int} (hI : cInv ex σ A) (h_m : dt_in32 m) : dt_Sp mX11_letIn 6 0 0 [dt_R 0, dt_I m] (dt_SH ++ ex) σ (fun v sh2 σ2 => v = some (dt_I (oLetIn A m).1) ∧ sh2 = dt_SH ++ ex ∧ cEnd ex σ σ2 (oLetIn A m).2) := by
  refine dt_Sp_of (by decide) (Nat.le_of_ble_eq_true rfl) ?_
  refine dt_wfV fun hwf => ?_
  have hc := hI.2.2.1.1
  have hok := hI.2.2.1.2.1
  have e5 := hc.t
  have e6 := hc.p
  have e7 := hc.1
  show dt_V _ _ _ 0 0 0 [some (dt_R 0), some (dt_I m)] [] _ _
  refine dt_aloadn dX11_letIn_0 rfl rfl ?_
  refine dt_xV dX11_letIn_1 pc_X11_132 rfl s_X11_hasNoPort rfl rfl ⟨by decide, by decide⟩ rfl rfl (Nat.le_of_ble_eq_true rfl) ⟨by decide, by decide⟩ (dt_k3 ?_)
  refine dt_if_eq (tgt := 10) dX11_letIn_4 (by decide) (by first | assumption | exact hwf _ _ | exact dt_b32 _ | omega | exact ⟨by omega, by omega⟩ | decide | exact ⟨by simp (disch := omega) only [dt_up_s, dt_up_k, dt_up_n]; omega, by simp (disch := omega) only [dt_up_s, dt_up_k, dt_up_n]; omega⟩) (fun c1 => ?_) (fun c1 => ?_)
  · skip
    try simp only [dt_b0, dt_b1, Decidable.not_not, Classical.not_not] at c1
    refine dt_iloadn dX11_letIn_10 rfl rfl ?_
    refine dt_iconst dX11_letIn_11 ?_
    refine dt_sipush dX11_letIn_12 (by decide) ?_
    refine dt_xS dX11_letIn_15 pc_X11_70 (s_X11_isWithin (by first | assumption | exact hwf _ _ | exact dt_b32 _ | omega | exact ⟨by omega, by omega⟩ | decide | exact ⟨by simp (disch := omega) only [dt_up_s, dt_up_k, dt_up_n]; omega, by simp (disch := omega) only [dt_up_s, dt_up_k, dt_up_n]; omega⟩) (by first | assumption | exact hwf _ _ | exact dt_b32 _ | omega | exact ⟨by omega, by omega⟩ | decide | exact ⟨by simp (disch := omega) only [dt_up_s, dt_up_k, dt_up_n]; omega, by simp (disch := omega) only [dt_up_s, dt_up_k, dt_up_n]; omega⟩) (by first | assumption | exact hwf _ _ | exact dt_b32 _ | omega | exact ⟨by omega, by omega⟩ | decide | exact ⟨by simp (disch := omega) only [dt_up_s, dt_up_k, dt_up_n]; omega, by simp (disch := omega) only [dt_up_s, dt_up_k, dt_up_n]; omega⟩)) rfl rfl ⟨by decide, by decide⟩ (Nat.le_of_ble_eq_true rfl) ⟨by decide, by decide⟩ (dt_k3 ?_)
    refine dt_if_ne (tgt := 24) dX11_letIn_18 (by decide) (by first | assumption | exact hwf _ _ | exact dt_b32 _ | omega | exact ⟨by omega, by omega⟩ | decide | exact ⟨by simp (disch := omega) only [dt_up_s, dt_up_k, dt_up_n]; omega, by simp (disch := omega) only [dt_up_s, dt_up_k, dt_up_n]; omega⟩) (fun c2 => ?_) (fun c2 => ?_)
    · skip
      try simp only [dt_b0, dt_b1, Decidable.not_not, Classical.not_not] at c2
      refine dt_aloadn dX11_letIn_24 rfl rfl ?_
      refine dt_getR dX11_letIn_25 pg_X11_44_11 rfl rfl ?_
      refine dt_iloadn dX11_letIn_28 rfl rfl ?_
      obtain ⟨m, rfl⟩ : ∃ z : Nat, m = z := ⟨m.toNat, by omega⟩
      refine dt_xV dX11_letIn_29 pc_X11_221 rfl (s_X8_tongueToLetIn hc hok (by omega)) rfl rfl ⟨by decide, by decide⟩ rfl rfl (Nat.le_of_ble_eq_true rfl) ⟨by decide, by decide⟩ ?_
      intro vs shs σs hqs
      obtain ⟨rfl, hss, hfs⟩ := hqs
      obtain rfl := hss.symm
      refine dt_iret dX11_letIn_32 rfl (by decide) (by decide) ?_
      have e : oLetIn A m = ((xLet (sN A) m (sN A).1.length).1, A) := by
        unfold oLetIn
        rw [if_neg (fun q => by have := dt_nn.mpr q; omega), if_neg (by omega), Int.toNat_natCast]
      rw [e]
      exact ⟨rfl, rfl, hI.sy (fun b hb => hfs b (by omega) (by omega)), fun b h1 h2 => hfs b (by omega) (by omega)⟩
    · skip
      try simp only [dt_b0, dt_b1, Decidable.not_not, Classical.not_not] at c2
      refine dt_ldc dX11_letIn_21 pk_X11_74 ?_
      refine dt_iret dX11_letIn_23 rfl (by decide) (by decide) ?_
      have e : oLetIn A m = (-1000001, A) := by
        unfold oLetIn
        rw [if_neg (fun q => by have := dt_nn.mpr q; omega), if_pos (by omega)]
      rw [e]
      exact ⟨rfl, rfl, hI, fun b _ _ => rfl⟩
  · skip
    try simp only [dt_b0, dt_b1, Decidable.not_not, Classical.not_not] at c1
    refine dt_ldc dX11_letIn_7 pk_X11_136 ?_
    refine dt_iret dX11_letIn_9 rfl (by decide) (by decide) ?_
    have e : oLetIn A m = (-1000002, A) := by
      unfold oLetIn
      rw [if_pos (dt_nn.mp (by omega))]
    rw [e]
    exact ⟨rfl, rfl, hI, fun b _ _ => rfl⟩
theorem xSt_0 (m : Nat) : xSt 0 m = 0 := by
  unfold xSt
  split <;> rfl
theorem xSure_0 (tg : List (Nat × List Nat)) : xSure tg 0 = xCnt (fun m => xSF tg m 0 = m) 256 := by
  unfold xSure
  exact xCnt_c 256 (fun k _ => by rw [xSt_0])
/-- how far a round of going on has come: no set was new -/
def xDn (P : Nat → Prop) (D : Nat → Nat → Prop) : Prop := ∀ j r, D j r → P j → P (j ||| r)
theorem s_X12_said1 {ex : List dt_Shp} {σ : dt_Mem} {X : dX} {t : Nat} {tg : List (Nat × List Nat)} (hX : rX σ X) (htg : X.1[t]? = some tg) : dt_Sp mX12_said 2 0 0 [dt_R 40, dt_I (t : Int), dt_I 1] (dt_SH ++ ex) σ (fun v sh2 σ2 => v = some (dt_I ((xSure tg 0 : Nat) : Int)) ∧ sh2 = dt_SH ++ ex ∧ σ2 = σ) := by
  refine dt_Sp_of (by decide) (Nat.le_of_ble_eq_true rfl) ?_
  refine dt_wfV fun hwf => ?_
  obtain ⟨f1, f2, f3, f4, f5⟩ := hX.tg htg
  show dt_V _ _ _ 0 0 0 [some (dt_R 40), some (dt_I (t : Int)), some (dt_I 1), none, none, none, none, none, none] [] _ _
  refine dt_iconst dX12_said_0 ?_
  refine dt_istoren dX12_said_1 rfl (by decide) rfl ?_
  dsimp only [List.set]
  refine dt_iloadn dX12_said_2 rfl rfl ?_
  refine dt_if_eq (tgt := 93) dX12_said_3 (by decide) (by first | assumption | exact hwf _ _ | exact dt_b32 _ | omega | exact ⟨by omega, by omega⟩ | decide | exact ⟨by simp (disch := omega) only [dt_up_s, dt_up_k, dt_up_n]; omega, by simp (disch := omega) only [dt_up_s, dt_up_k, dt_up_n]; omega⟩) (fun c1 => ?_) (fun c1 => ?_)
  · skip
    first | exact absurd c1 (by omega) | exact absurd c1 (by decide) | exact absurd rfl c1
  · skip
    refine dt_iconst dX12_said_6 ?_
    refine dt_istore dX12_said_7 (by decide) rfl ?_
    dsimp only [List.set]
    have lp9 : ∀ (fu : Nat) (m : Nat), 256 - (m : Int) < (fu : Int) → (m ≤ 256) →  dt_V mX12_said (dt_rm 2 0 0) (dt_MC (fun v sh2 σ2 => v = some (dt_I ((xSure tg 0 : Nat) : Int)) ∧ sh2 = dt_SH ++ ex ∧ σ2 = σ) 0 0) 0 0 9 [some (dt_R 40), some (dt_I (t : Int)), some (dt_I 1), some (dt_I ((xCnt (fun m => xSF tg m 0 = m) m : Nat) : Int)), some (dt_I (m : Int)), none, none, none, none] [] (dt_SH ++ ex) σ := by
      intro fu
      induction fu with
      | zero =>
        intro m hm ml
        exfalso
        omega
      | succ fu ih =>
        intro m hm ml
        refine dt_wfV fun hwf => ?_
        have ih0 := ih
        have hcl := xCnt_le (fun m => xSF tg m 0 = m) m
        refine dt_iload dX12_said_9 rfl ?_
        refine dt_sipush dX12_said_11 (by decide) ?_
        refine dt_cm_ge (tgt := 91) dX12_said_14 (by decide) (by first | assumption | exact hwf _ _ | exact dt_b32 _ | omega | exact ⟨by omega, by omega⟩ | decide | exact ⟨by simp (disch := omega) only [dt_up_s, dt_up_k, dt_up_n]; omega, by simp (disch := omega) only [dt_up_s, dt_up_k, dt_up_n]; omega⟩) (by first | assumption | exact hwf _ _ | exact dt_b32 _ | omega | exact ⟨by omega, by omega⟩ | decide | exact ⟨by simp (disch := omega) only [dt_up_s, dt_up_k, dt_up_n]; omega, by simp (disch := omega) only [dt_up_s, dt_up_k, dt_up_n]; omega⟩) (fun c2 => ?_) (fun c2 => ?_)
        · skip
          refine dt_iloadn dX12_said_91 rfl rfl ?_
          refine dt_iret dX12_said_92 rfl (by decide) (by decide) ?_
          obtain rfl : m = 256 := by omega
          rw [xSure_0]
          exact ⟨rfl, rfl, rfl⟩
        · skip
          have hm256 : m < 256 := by omega
          refine dt_iconst dX12_said_17 ?_
          refine dt_istore dX12_said_18 (by decide) rfl ?_
          dsimp only [List.set]
          refine dt_iconst dX12_said_20 ?_
          refine dt_istore dX12_said_21 (by decide) rfl ?_
          dsimp only [List.set]
          have lp23 : ∀ (fu : Nat) (w : Nat), (tg.length : Int) - w < (fu : Int) → (w ≤ tg.length) →  dt_V mX12_said (dt_rm 2 0 0) (dt_MC (fun v sh2 σ2 => v = some (dt_I ((xSure tg 0 : Nat) : Int)) ∧ sh2 = dt_SH ++ ex ∧ σ2 = σ) 0 0) 0 0 23 [some (dt_R 40), some (dt_I (t : Int)), some (dt_I 1), some (dt_I ((xCnt (fun m => xSF tg m 0 = m) m : Nat) : Int)), some (dt_I (m : Int)), some (dt_I ((xSF (tg.take w) m 0 : Nat) : Int)), some (dt_I (w : Int)), none, none] [] (dt_SH ++ ex) σ := by
            intro fu
            induction fu with
            | zero =>
              intro w hm wl2
              exfalso
              omega
            | succ fu ih =>
              intro w hm wl2
              refine dt_wfV fun hwf => ?_
              have hfl := xSF_lt (m := m) (tg.take w) 0 (by decide)
              refine dt_iload dX12_said_23 rfl ?_
              refine dt_aloadn dX12_said_25 rfl rfl ?_
              refine dt_getR dX12_said_26 pg_X12_19_12 rfl rfl ?_
              refine dt_iconst dX12_said_29 ?_
              refine dt_iloadn dX12_said_30 rfl rfl ?_
              refine dt_iadd dX12_said_31 ?_
              refine dt_iald dX12_said_32 rfl (by first | omega | (simp (disch := omega) only [dt_up_s, dt_up_k, dt_up_n]; omega)) (by first | omega | (simp (disch := omega) only [dt_up_s, dt_up_k, dt_up_n]; omega)) (by decide) ?_
              rw [show ((3 : Int) + (t : Int)).toNat = 3 + t by omega, f1]
              refine dt_cm_ge (tgt := 70) dX12_said_33 (by decide) (by first | assumption | exact hwf _ _ | exact dt_b32 _ | omega | exact ⟨by omega, by omega⟩ | decide | exact ⟨by simp (disch := omega) only [dt_up_s, dt_up_k, dt_up_n]; omega, by simp (disch := omega) only [dt_up_s, dt_up_k, dt_up_n]; omega⟩) (by first | assumption | exact hwf _ _ | exact dt_b32 _ | omega | exact ⟨by omega, by omega⟩ | decide | exact ⟨by simp (disch := omega) only [dt_up_s, dt_up_k, dt_up_n]; omega, by simp (disch := omega) only [dt_up_s, dt_up_k, dt_up_n]; omega⟩) (fun c3 => ?_) (fun c3 => ?_)
              · skip
                have hte : tg.take w = tg := List.take_of_length_le (by omega)
                rw [hte] at hfl ⊢
                refine dt_iloadn dX12_said_70 rfl rfl ?_
                refine dt_iload dX12_said_71 rfl ?_
                refine dt_iload dX12_said_73 rfl ?_
                refine dt_cm_ne (tgt := 82) dX12_said_75 (by decide) (by first | assumption | exact hwf _ _ | exact dt_b32 _ | omega | exact ⟨by omega, by omega⟩ | decide | exact ⟨by simp (disch := omega) only [dt_up_s, dt_up_k, dt_up_n]; omega, by simp (disch := omega) only [dt_up_s, dt_up_k, dt_up_n]; omega⟩) (by first | assumption | exact hwf _ _ | exact dt_b32 _ | omega | exact ⟨by omega, by omega⟩ | decide | exact ⟨by simp (disch := omega) only [dt_up_s, dt_up_k, dt_up_n]; omega, by simp (disch := omega) only [dt_up_s, dt_up_k, dt_up_n]; omega⟩) (fun c4 => ?_) (fun c4 => ?_)
                · skip
                  have hval : ((xCnt (fun m => xSF tg m 0 = m) m : Nat) : Int) + 0 = ((xCnt (fun m => xSF tg m 0 = m) (m + 1) : Nat) : Int) := by rw [xCnt_n (P := (fun m => xSF tg m 0 = m)) (show ¬ xSF tg m 0 = m by omega)]; omega
                  refine dt_iconst dX12_said_82 ?_
                  refine dt_iadd dX12_said_83 ?_
                  refine dt_istoren dX12_said_84 rfl (by decide) rfl ?_
                  dsimp only [List.set]
                  refine dt_iinc dX12_said_85 rfl (by decide) rfl ?_
                  dsimp only [List.set]
                  refine dt_goto (tgt := 9) dX12_said_88 (by decide) ?_
                  exact dt_lb (ih0 (m + 1) (by omega) (by omega)) ⟨rfl, rfl, rfl, (dt_ie hval), rfl, trivial⟩
                · skip
                  have hval : ((xCnt (fun m => xSF tg m 0 = m) m : Nat) : Int) + 1 = ((xCnt (fun m => xSF tg m 0 = m) (m + 1) : Nat) : Int) := by rw [xCnt_y (P := (fun m => xSF tg m 0 = m)) (show xSF tg m 0 = m by omega)]; rfl
                  refine dt_iconst dX12_said_78 ?_
                  refine dt_goto (tgt := 83) dX12_said_79 (by decide) ?_
                  refine dt_iadd dX12_said_83 ?_
                  refine dt_istoren dX12_said_84 rfl (by decide) rfl ?_
                  dsimp only [List.set]
                  refine dt_iinc dX12_said_85 rfl (by decide) rfl ?_
                  dsimp only [List.set]
                  refine dt_goto (tgt := 9) dX12_said_88 (by decide) ?_
                  exact dt_lb (ih0 (m + 1) (by omega) (by omega)) ⟨rfl, rfl, rfl, (dt_ie hval), rfl, trivial⟩
              · skip
                obtain ⟨wd, hwd⟩ := dt_lg (l := tg) (i := w) (by omega)
                have hw : xW X t w wd := ⟨tg, htg, hwd⟩
                obtain ⟨⟨k0, k1, k2, k3⟩, k4, k5, k6⟩ := hX.wd hw
                refine dt_iload dX12_said_36 rfl ?_
                refine dt_aloadn dX12_said_38 rfl rfl ?_
                refine dt_iloadn dX12_said_39 rfl rfl ?_
                refine dt_iload dX12_said_40 rfl ?_
                refine dt_iload dX12_said_42 rfl ?_
                refine dt_xV dX12_said_44 pc_X12_245 rfl (s_X12_isWithin hX hw hm256) rfl rfl ⟨by decide, by decide⟩ rfl rfl (Nat.le_of_ble_eq_true rfl) ⟨by decide, by decide⟩ (dt_k3 ?_)
                refine dt_if_eq (tgt := 60) dX12_said_47 (by decide) (by first | assumption | exact hwf _ _ | exact dt_b32 _ | omega | exact ⟨by omega, by omega⟩ | decide | exact ⟨by simp (disch := omega) only [dt_up_s, dt_up_k, dt_up_n]; omega, by simp (disch := omega) only [dt_up_s, dt_up_k, dt_up_n]; omega⟩) (fun c5 => ?_) (fun c5 => ?_)
                · skip
                  try simp only [dt_b0, dt_b1, Decidable.not_not, Classical.not_not] at c5
                  have hval : (((xSF (tg.take w) m 0 : Nat)) : Int) = ((xSF (tg.take (w + 1)) m 0 : Nat) : Int) := by unfold xSF; rw [fl_s hwd, xSr_n (by assumption)]
                  refine dt_iconst dX12_said_60 ?_
                  refine dt_ior dX12_said_61 ?_
                  rw [dj_or0 (by omega)]
                  refine dt_istore dX12_said_62 (by decide) rfl ?_
                  dsimp only [List.set]
                  refine dt_iinc dX12_said_64 rfl (by decide) rfl ?_
                  dsimp only [List.set]
                  refine dt_goto (tgt := 23) dX12_said_67 (by decide) ?_
                  exact dt_lb (ih (w + 1) (by omega) (by omega)) ⟨rfl, rfl, rfl, rfl, rfl, (dt_ie hval), rfl, trivial⟩
                · skip
                  try simp only [dt_b0, dt_b1, Decidable.not_not, Classical.not_not] at c5
                  have hval : ((xSF (tg.take w) m 0 ||| xCom wd.2 : Nat) : Int) = ((xSF (tg.take (w + 1)) m 0 : Nat) : Int) := by unfold xSF; rw [fl_s hwd, xSr_y (by assumption)]
                  have hcl2 := xCom_lt wd.2
                  refine dt_aloadn dX12_said_50 rfl rfl ?_
                  refine dt_iloadn dX12_said_51 rfl rfl ?_
                  refine dt_iload dX12_said_52 rfl ?_
                  refine dt_xV dX12_said_54 pc_X12_249 rfl (s_X12_common hX hw) rfl rfl ⟨by decide, by decide⟩ rfl rfl (Nat.le_of_ble_eq_true rfl) ⟨by decide, by decide⟩ (dt_k3 ?_)
                  refine dt_goto (tgt := 61) dX12_said_57 (by decide) ?_
                  refine dt_ior dX12_said_61 ?_
                  rw [dj_or_nn (by omega) (by omega)]
                  refine dt_istore dX12_said_62 (by decide) rfl ?_
                  dsimp only [List.set]
                  refine dt_iinc dX12_said_64 rfl (by decide) rfl ?_
                  dsimp only [List.set]
                  refine dt_goto (tgt := 23) dX12_said_67 (by decide) ?_
                  exact dt_lb (ih (w + 1) (by omega) (by omega)) ⟨rfl, rfl, rfl, rfl, rfl, (dt_ie hval), rfl, trivial⟩
          exact dt_lb (lp23 9 0 (by omega) (by omega)) ⟨rfl, rfl, rfl, rfl, rfl, rfl, rfl, trivial⟩
    exact dt_lb (lp9 300 0 (by omega) (by omega)) ⟨rfl, rfl, rfl, rfl, rfl, trivial⟩
theorem xCnt_le2 {P Q : Nat → Prop} (h : ∀ k, P k → Q k) : ∀ n, xCnt P n ≤ xCnt Q n
  | 0 => Nat.le_refl 0
  | n + 1 => by
    have a := xCnt_le2 h n
    by_cases g : P n
    · rw [xCnt_y g, xCnt_y (h n g)]; omega
    · by_cases g2 : Q n
      · rw [xCnt_n g, xCnt_y g2]; omega
      · rw [xCnt_n g, xCnt_n g2]; exact a
theorem xCnt_lt2 {P Q : Nat → Prop} (h : ∀ k, P k → Q k) {j : Nat} (h1 : ¬ P j) (h2 : Q j) : ∀ n, j < n → xCnt P n < xCnt Q n
  | 0, hj => absurd hj (Nat.not_lt_zero j)
  | n + 1, hj => by
    by_cases e : j = n
    · subst e
      rw [xCnt_n h1, xCnt_y h2]
      have := xCnt_le2 h j
      omega
    · have a := xCnt_lt2 h h1 h2 n (by omega)
      by_cases g : P n
      · rw [xCnt_y g, xCnt_y (h n g)]; omega
      · by_cases g2 : Q n
        · rw [xCnt_n g, xCnt_y g2]; omega
        · rw [xCnt_n g, xCnt_n g2]; exact a
theorem xHas_s {tg : List (Nat × List Nat)} {w r : Nat} {wd : Nat × List Nat} (h : tg[w]? = some wd) : xHas (tg.take (w + 1)) r ↔ xHas (tg.take w) r ∨ r ∈ wd.2 := by
  unfold xHas
  rw [List.take_add_one, h]
  constructor
  · rintro ⟨x, hx, hr⟩
    rcases List.mem_append.mp hx with g | g
    · exact Or.inl ⟨x, g, hr⟩
    · obtain rfl := List.mem_singleton.mp g; exact Or.inr hr
  · rintro (⟨x, hx, hr⟩ | hr)
    · exact ⟨x, List.mem_append_left _ hx, hr⟩
    · exact ⟨wd, List.mem_append_right _ List.mem_cons_self, hr⟩
theorem xCl_eq {C P : Nat → Prop} (hC : ∀ r, C r → r < 256) (h0 : P 0) (h1 : ∀ k, P k → xCl C k) (h2 : ∀ j r, j < 256 → C r → P j → P (j ||| r)) (k : Nat) : k < 256 → (P k ↔ xCl C k) := fun hk => ⟨h1 k, fun h => (h (fun k => k < 256 ∧ P k) ⟨by decide, h0⟩ (fun s r hs hr => ⟨Nat.or_lt_two_pow (n := 8) hs.1 (hC r hr), h2 s r hs.1 hr hs.2⟩)).2⟩
theorem s_X12_said0 {ex : List dt_Shp} {σ : dt_Mem} {X : dX} {t : Nat} {tg : List (Nat × List Nat)} (hX : rX σ X) (htg : X.1[t]? = some tg) : dt_Sp mX12_said 2 0 0 [dt_R 40, dt_I (t : Int), dt_I 0] (dt_SH ++ ex) σ (fun v sh2 σ2 => v = some (dt_I ((xCnt (xCl (xHas tg)) 256 : Nat) : Int)) ∧ sh2 = dt_SH ++ ex ∧ (∀ b, b ≠ 47 → σ2 b = σ b)) := by
  refine dt_Sp_of (by decide) (Nat.le_of_ble_eq_true rfl) ?_
  refine dt_wfV fun hwf => ?_
  obtain ⟨f1, f2, f3, f4, f5⟩ := hX.tg htg
  have hC8 : ∀ r, xHas tg r → r < 256 := fun r ⟨wd, hwd, hr⟩ => ((f5 wd hwd).2.2.2.2.2 r hr).2
  show dt_V _ _ _ 0 0 0 [some (dt_R 40), some (dt_I (t : Int)), some (dt_I 0), none, none, none, none, none, none] [] _ _
  refine dt_iconst dX12_said_0 ?_
  refine dt_istoren dX12_said_1 rfl (by decide) rfl ?_
  dsimp only [List.set]
  refine dt_iloadn dX12_said_2 rfl rfl ?_
  refine dt_if_eq (tgt := 93) dX12_said_3 (by decide) (by first | assumption | exact hwf _ _ | exact dt_b32 _ | omega | exact ⟨by omega, by omega⟩ | decide | exact ⟨by simp (disch := omega) only [dt_up_s, dt_up_k, dt_up_n]; omega, by simp (disch := omega) only [dt_up_s, dt_up_k, dt_up_n]; omega⟩) (fun c1 => ?_) (fun c1 => ?_)
  · skip
    refine dt_aloadn dX12_said_93 rfl rfl ?_
    refine dt_xV dX12_said_94 pc_X12_234 rfl s_X12_startMeaning rfl rfl ⟨by decide, by decide⟩ rfl rfl (Nat.le_of_ble_eq_true rfl) ⟨by decide, by decide⟩ ?_
    intro vs shs σs hqs
    obtain ⟨rfl, hss, hfs, hMs⟩ := hqs
    obtain rfl := hss.symm
    refine dt_iconst dX12_said_97 ?_
    refine dt_istore dX12_said_98 (by decide) rfl ?_
    dsimp only [List.set]
    have lp100 : ∀ (fu : Nat) (b : Int) (P : Nat → Prop) (σ1 : dt_Mem), 2 * (256 - ((xCnt P 256 : Nat) : Int)) + b < (fu : Int) → (b = 0 ∨ b = 1) → (∀ b, b ≠ 47 → σ1 b = σ b) → (mP σ1 47 256 P) → (P 0) → (∀ k, P k → xCl (xHas tg) k) → (b = 0 → ∀ j r, j < 256 ∧ xHas tg r → P j → P (j ||| r)) →  dt_V mX12_said (dt_rm 2 0 0) (dt_MC (fun v sh2 σ2 => v = some (dt_I ((xCnt (xCl (xHas tg)) 256 : Nat) : Int)) ∧ sh2 = dt_SH ++ ex ∧ (∀ b, b ≠ 47 → σ2 b = σ b)) 0 0) 0 0 100 [some (dt_R 40), some (dt_I (t : Int)), some (dt_I 0), some (dt_I 0), some (dt_I b), none, none, none, none] [] (dt_SH ++ ex) σ1 := by
      intro fu
      induction fu with
      | zero =>
        intro b P σ1 hm jb jf jm j0 jc jd
        exfalso
        have hcp := xCnt_le P 256; omega
      | succ fu ih =>
        intro b P σ1 hm jb jf jm j0 jc jd
        refine dt_wfV fun hwf => ?_
        have ih0 := ih
        have hcp := xCnt_le P 256
        refine dt_iload dX12_said_100 rfl ?_
        refine dt_if_eq (tgt := 225) dX12_said_102 (by decide) (by first | assumption | exact hwf _ _ | exact dt_b32 _ | omega | exact ⟨by omega, by omega⟩ | decide | exact ⟨by simp (disch := omega) only [dt_up_s, dt_up_k, dt_up_n]; omega, by simp (disch := omega) only [dt_up_s, dt_up_k, dt_up_n]; omega⟩) (fun c2 => ?_) (fun c2 => ?_)
        · skip
          have hb0 : b = 0 := by omega
          refine dt_aloadn dX12_said_225 rfl rfl ?_
          refine dt_aloadn dX12_said_226 rfl rfl ?_
          refine dt_getR dX12_said_227 pg_X12_28_12 rfl rfl ?_
          refine dt_iconst dX12_said_230 ?_
          refine dt_xV dX12_said_231 pc_X12_241 rfl (s_X12_marked rfl jm (by decide)) rfl rfl ⟨by decide, by decide⟩ rfl rfl (Nat.le_of_ble_eq_true rfl) ⟨by decide, by decide⟩ (dt_k3 ?_)
          refine dt_iret dX12_said_234 rfl (by decide) (by decide) ?_
          refine ⟨?_, rfl, jf⟩
          unfold oM
          rw [if_pos (by decide), xCnt_c 256 (fun k hk => xCl_eq hC8 j0 jc (fun j r a b => jd hb0 j r ⟨a, b⟩) k hk)]
        · skip
          have hb1 : b = 1 := by omega
          refine dt_iconst dX12_said_105 ?_
          refine dt_istore dX12_said_106 (by decide) rfl ?_
          dsimp only [List.set]
          refine dt_iconst dX12_said_108 ?_
          refine dt_istore dX12_said_109 (by decide) rfl ?_
          dsimp only [List.set]
          have lp111 : ∀ (fu : Nat) (k : Nat) (b2 : Int) (P2 : Nat → Prop) (σ2 : dt_Mem), 256 - (k : Int) < (fu : Int) → (k ≤ 256) → (b2 = 0 ∨ b2 = 1) → (∀ b, b ≠ 47 → σ2 b = σ b) → (mP σ2 47 256 P2) → (P2 0) → (∀ k, P2 k → xCl (xHas tg) k) → (b2 = 0 → ∀ j r, j < k ∧ xHas tg r → P2 j → P2 (j ||| r)) → (xCnt P 256 ≤ xCnt P2 256 ∧ (b2 = 1 → xCnt P 256 < xCnt P2 256)) →  dt_V mX12_said (dt_rm 2 0 0) (dt_MC (fun v sh2 σ2 => v = some (dt_I ((xCnt (xCl (xHas tg)) 256 : Nat) : Int)) ∧ sh2 = dt_SH ++ ex ∧ (∀ b, b ≠ 47 → σ2 b = σ b)) 0 0) 0 0 111 [some (dt_R 40), some (dt_I (t : Int)), some (dt_I 0), some (dt_I 0), some (dt_I b2), some (dt_I (k : Int)), none, none, none] [] (dt_SH ++ ex) σ2 := by
            intro fu
            induction fu with
            | zero =>
              intro k b2 P2 σ2 hm kl kb kf km k0 kc kd kn
              exfalso
              omega
            | succ fu ih =>
              intro k b2 P2 σ2 hm kl kb kf km k0 kc kd kn
              refine dt_wfV fun hwf => ?_
              have ih1 := ih
              refine dt_iload dX12_said_111 rfl ?_
              refine dt_sipush dX12_said_113 (by decide) ?_
              refine dt_cm_ge (tgt := 222) dX12_said_116 (by decide) (by first | assumption | exact hwf _ _ | exact dt_b32 _ | omega | exact ⟨by omega, by omega⟩ | decide | exact ⟨by simp (disch := omega) only [dt_up_s, dt_up_k, dt_up_n]; omega, by simp (disch := omega) only [dt_up_s, dt_up_k, dt_up_n]; omega⟩) (by first | assumption | exact hwf _ _ | exact dt_b32 _ | omega | exact ⟨by omega, by omega⟩ | decide | exact ⟨by simp (disch := omega) only [dt_up_s, dt_up_k, dt_up_n]; omega, by simp (disch := omega) only [dt_up_s, dt_up_k, dt_up_n]; omega⟩) (fun c3 => ?_) (fun c3 => ?_)
              · skip
                refine dt_goto (tgt := 100) dX12_said_222 (by decide) ?_
                exact dt_lb (ih0 b2 P2 σ2 (by have := xCnt_le P2 256; rcases kb with g | g <;> omega) kb kf km k0 kc (fun h j r hj => kd h j r ⟨by omega, hj.2⟩)) ⟨rfl, rfl, rfl, rfl, rfl, trivial⟩
              · skip
                have hk256 : k < 256 := by omega
                refine dt_iconst dX12_said_119 ?_
                refine dt_istore dX12_said_120 (by decide) rfl ?_
                dsimp only [List.set]
                have lp122 : ∀ (fu : Nat) (w : Nat) (b3 : Int) (P3 : Nat → Prop) (σ3 : dt_Mem), (tg.length : Int) - w < (fu : Int) → (w ≤ tg.length) → (b3 = 0 ∨ b3 = 1) → (∀ b, b ≠ 47 → σ3 b = σ b) → (mP σ3 47 256 P3) → (P3 0) → (∀ k, P3 k → xCl (xHas tg) k) → (b3 = 0 → ∀ j r, ((j < k ∧ xHas tg r) ∨ (j = k ∧ xHas (tg.take w) r)) → P3 j → P3 (j ||| r)) → (xCnt P 256 ≤ xCnt P3 256 ∧ (b3 = 1 → xCnt P 256 < xCnt P3 256)) →  dt_V mX12_said (dt_rm 2 0 0) (dt_MC (fun v sh2 σ2 => v = some (dt_I ((xCnt (xCl (xHas tg)) 256 : Nat) : Int)) ∧ sh2 = dt_SH ++ ex ∧ (∀ b, b ≠ 47 → σ2 b = σ b)) 0 0) 0 0 122 [some (dt_R 40), some (dt_I (t : Int)), some (dt_I 0), some (dt_I 0), some (dt_I b3), some (dt_I (k : Int)), some (dt_I (w : Int)), none, none] [] (dt_SH ++ ex) σ3 := by
                  intro fu
                  induction fu with
                  | zero =>
                    intro w b3 P3 σ3 hm wl lb lf lm l0 lc ld ln
                    exfalso
                    omega
                  | succ fu ih =>
                    intro w b3 P3 σ3 hm wl lb lf lm l0 lc ld ln
                    refine dt_wfV fun hwf => ?_
                    have ih2 := ih
                    refine dt_iload dX12_said_122 rfl ?_
                    refine dt_aloadn dX12_said_124 rfl rfl ?_
                    refine dt_getR dX12_said_125 pg_X12_19_12 rfl rfl ?_
                    refine dt_iconst dX12_said_128 ?_
                    refine dt_iloadn dX12_said_129 rfl rfl ?_
                    refine dt_iadd dX12_said_130 ?_
                    refine dt_iald dX12_said_131 rfl (by first | omega | (simp (disch := omega) only [dt_up_s, dt_up_k, dt_up_n]; omega)) (by first | omega | (simp (disch := omega) only [dt_up_s, dt_up_k, dt_up_n]; omega)) (by decide) ?_
                    rw [show ((3 : Int) + (t : Int)).toNat = 3 + t by omega, show σ3 44 (3 + t) = tg.length by rw [lf 44 (by decide)]; exact f1]
                    refine dt_cm_ge (tgt := 216) dX12_said_132 (by decide) (by first | assumption | exact hwf _ _ | exact dt_b32 _ | omega | exact ⟨by omega, by omega⟩ | decide | exact ⟨by simp (disch := omega) only [dt_up_s, dt_up_k, dt_up_n]; omega, by simp (disch := omega) only [dt_up_s, dt_up_k, dt_up_n]; omega⟩) (by first | assumption | exact hwf _ _ | exact dt_b32 _ | omega | exact ⟨by omega, by omega⟩ | decide | exact ⟨by simp (disch := omega) only [dt_up_s, dt_up_k, dt_up_n]; omega, by simp (disch := omega) only [dt_up_s, dt_up_k, dt_up_n]; omega⟩) (fun c4 => ?_) (fun c4 => ?_)
                    · skip
                      have hdk : b3 = 0 → ∀ j r, j < k + 1 ∧ xHas tg r → P3 j → P3 (j ||| r) := fun h j r z => by
                        rw [show tg.take w = tg from List.take_of_length_le (by omega)] at ld
                        by_cases e : j = k
                        · exact ld h j r (Or.inr ⟨e, z.2⟩)
                        · exact ld h j r (Or.inl ⟨by omega, z.2⟩)
                      refine dt_iinc dX12_said_216 rfl (by decide) rfl ?_
                      dsimp only [List.set]
                      refine dt_goto (tgt := 111) dX12_said_219 (by decide) ?_
                      exact dt_lb (ih1 (k + 1) b3 P3 σ3 (by omega) (by omega) lb lf lm l0 lc hdk ln) ⟨rfl, rfl, rfl, rfl, rfl, rfl, trivial⟩
                    · skip
                      obtain ⟨wd, hwd⟩ := dt_lg (l := tg) (i := w) (by omega)
                      have hw : xW X t w wd := ⟨tg, htg, hwd⟩
                      obtain ⟨⟨kk0, kk1, kk2, kk3⟩, kk4, kk5, kk6⟩ := hX.wd hw
                      have kk8 := kk3.2.2.2.1
                      refine dt_aloadn dX12_said_135 rfl rfl ?_
                      refine dt_getR dX12_said_136 pg_X12_28_12 rfl rfl ?_
                      refine dt_iload dX12_said_139 rfl ?_
                      refine dt_zald dX12_said_141 rfl (by first | omega | (simp (disch := omega) only [dt_up_s, dt_up_k, dt_up_n]; omega)) (by first | omega | (simp (disch := omega) only [dt_up_s, dt_up_k, dt_up_n]; omega)) (by decide) ?_
                      rw [Int.toNat_natCast, lm k hk256]
                      refine dt_if_eq (tgt := 216) dX12_said_142 (by decide) (by first | assumption | exact hwf _ _ | exact dt_b32 _ | omega | exact ⟨by omega, by omega⟩ | decide | exact ⟨by simp (disch := omega) only [dt_up_s, dt_up_k, dt_up_n]; omega, by simp (disch := omega) only [dt_up_s, dt_up_k, dt_up_n]; omega⟩) (fun c5 => ?_) (fun c5 => ?_)
                      · skip
                        try simp only [dt_b0, dt_b1, Decidable.not_not, Classical.not_not] at c5
                        have hnk : ¬ P3 k := by assumption
                        have hdk : b3 = 0 → ∀ j r, j < k + 1 ∧ xHas tg r → P3 j → P3 (j ||| r) := fun h j r z hj => by
                          by_cases e : j = k
                          · subst e; exact absurd hj hnk
                          · exact ld h j r (Or.inl ⟨by omega, z.2⟩) hj
                        refine dt_iinc dX12_said_216 rfl (by decide) rfl ?_
                        dsimp only [List.set]
                        refine dt_goto (tgt := 111) dX12_said_219 (by decide) ?_
                        exact dt_lb (ih1 (k + 1) b3 P3 σ3 (by omega) (by omega) lb lf lm l0 lc hdk ln) ⟨rfl, rfl, rfl, rfl, rfl, rfl, trivial⟩
                      · skip
                        try simp only [dt_b0, dt_b1, Decidable.not_not, Classical.not_not] at c5
                        have hpk : P3 k := by assumption
                        refine dt_iconst dX12_said_145 ?_
                        refine dt_istore dX12_said_146 (by decide) rfl ?_
                        dsimp only [List.set]
                        have lp148 : ∀ (fu : Nat) (q : Nat) (b4 : Int) (P4 : Nat → Prop) (σ4 : dt_Mem), (wd.2.length : Int) - q < (fu : Int) → (q ≤ wd.2.length) → (b4 = 0 ∨ b4 = 1) → (∀ b, b ≠ 47 → σ4 b = σ b) → (mP σ4 47 256 P4) → (P4 0) → (∀ k, P4 k → xCl (xHas tg) k) → (b4 = 0 → ∀ j r, ((j < k ∧ xHas tg r) ∨ (j = k ∧ (xHas (tg.take w) r ∨ r ∈ wd.2.take q))) → P4 j → P4 (j ||| r)) → (xCnt P 256 ≤ xCnt P4 256 ∧ (b4 = 1 → xCnt P 256 < xCnt P4 256)) → (P4 k) →  dt_V mX12_said (dt_rm 2 0 0) (dt_MC (fun v sh2 σ2 => v = some (dt_I ((xCnt (xCl (xHas tg)) 256 : Nat) : Int)) ∧ sh2 = dt_SH ++ ex ∧ (∀ b, b ≠ 47 → σ2 b = σ b)) 0 0) 0 0 148 [some (dt_R 40), some (dt_I (t : Int)), some (dt_I 0), some (dt_I 0), some (dt_I b4), some (dt_I (k : Int)), some (dt_I (w : Int)), some (dt_I (q : Int)), none] [] (dt_SH ++ ex) σ4 := by
                          intro fu
                          induction fu with
                          | zero =>
                            intro q b4 P4 σ4 hm ql mb mf mm m0 mc md mn mk
                            exfalso
                            omega
                          | succ fu ih =>
                            intro q b4 P4 σ4 hm ql mb mf mm m0 mc md mn mk
                            refine dt_wfV fun hwf => ?_
                            refine dt_iload dX12_said_148 rfl ?_
                            refine dt_aloadn dX12_said_150 rfl rfl ?_
                            refine dt_iloadn dX12_said_151 rfl rfl ?_
                            refine dt_iload dX12_said_152 rfl ?_
                            refine dt_xV dX12_said_154 pc_X12_197 rfl (s_X12_readings (hX.kept (mf 44 (by decide))) hw) rfl rfl ⟨by decide, by decide⟩ rfl rfl (Nat.le_of_ble_eq_true rfl) ⟨by decide, by decide⟩ (dt_k3 ?_)
                            refine dt_cm_ge (tgt := 210) dX12_said_157 (by decide) (by first | assumption | exact hwf _ _ | exact dt_b32 _ | omega | exact ⟨by omega, by omega⟩ | decide | exact ⟨by simp (disch := omega) only [dt_up_s, dt_up_k, dt_up_n]; omega, by simp (disch := omega) only [dt_up_s, dt_up_k, dt_up_n]; omega⟩) (by first | assumption | exact hwf _ _ | exact dt_b32 _ | omega | exact ⟨by omega, by omega⟩ | decide | exact ⟨by simp (disch := omega) only [dt_up_s, dt_up_k, dt_up_n]; omega, by simp (disch := omega) only [dt_up_s, dt_up_k, dt_up_n]; omega⟩) (fun c6 => ?_) (fun c6 => ?_)
                            · skip
                              refine dt_iinc dX12_said_210 rfl (by decide) rfl ?_
                              dsimp only [List.set]
                              refine dt_goto (tgt := 122) dX12_said_213 (by decide) ?_
                              have hdw : b4 = 0 → ∀ j r, ((j < k ∧ xHas tg r) ∨ (j = k ∧ xHas (tg.take (w + 1)) r)) → P4 j → P4 (j ||| r) := fun h j r z => by
                                rw [xHas_s hwd] at z
                                rw [show wd.2.take q = wd.2 from List.take_of_length_le (by omega)] at md
                                exact md h j r z
                              exact dt_lb (ih2 (w + 1) b4 P4 σ4 (by omega) (by omega) mb mf mm m0 mc hdw mn) ⟨rfl, rfl, rfl, rfl, rfl, rfl, rfl, trivial⟩
                            · skip
                              obtain ⟨r, hr⟩ := dt_lg (l := wd.2) (i := q) (by omega)
                              have hrC : xHas tg r := ⟨wd, List.mem_of_getElem? hwd, List.mem_of_getElem? hr⟩
                              have hr8 := hC8 r hrC
                              have hor : k ||| r < 256 := Nat.or_lt_two_pow (n := 8) hk256 hr8
                              have hf5 : ∀ b, b ≠ 47 → dt_up σ4 47 (k ||| r) 1 b = σ b := fun b hb => (dt_up_o hb).trans (mf b hb)
                              have hc5 : ∀ x, (P4 x ∨ x = k ||| r) → xCl (xHas tg) x := fun x z => z.elim (mc x) (fun z => z ▸ xCl_s (mc k mk) hrC)
                              have hle5 := xCnt_le2 (P := P4) (Q := fun x => P4 x ∨ x = k ||| r) (fun _ => Or.inl) 256
                              refine dt_iload dX12_said_160 rfl ?_
                              refine dt_aloadn dX12_said_162 rfl rfl ?_
                              refine dt_iloadn dX12_said_163 rfl rfl ?_
                              refine dt_iload dX12_said_164 rfl ?_
                              refine dt_iload dX12_said_166 rfl ?_
                              refine dt_xV dX12_said_168 pc_X12_200 rfl (s_X12_reading (hX.kept (mf 44 (by decide))) hw hr) rfl rfl ⟨by decide, by decide⟩ rfl rfl (Nat.le_of_ble_eq_true rfl) ⟨by decide, by decide⟩ (dt_k3 ?_)
                              refine dt_ior dX12_said_171 ?_
                              rw [dj_or_nn (by omega) (by omega)]
                              refine dt_istore dX12_said_172 (by decide) rfl ?_
                              dsimp only [List.set]
                              refine dt_iload dX12_said_174 rfl ?_
                              refine dt_if_ne (tgt := 189) dX12_said_176 (by decide) (by first | assumption | exact hwf _ _ | exact dt_b32 _ | omega | exact ⟨by omega, by omega⟩ | decide | exact ⟨by simp (disch := omega) only [dt_up_s, dt_up_k, dt_up_n]; omega, by simp (disch := omega) only [dt_up_s, dt_up_k, dt_up_n]; omega⟩) (fun c7 => ?_) (fun c7 => ?_)
                              · skip
                                refine dt_iconst dX12_said_189 ?_
                                refine dt_goto (tgt := 194) dX12_said_190 (by decide) ?_
                                refine dt_istore dX12_said_194 (by decide) rfl ?_
                                dsimp only [List.set]
                                refine dt_aloadn dX12_said_196 rfl rfl ?_
                                refine dt_getR dX12_said_197 pg_X12_28_12 rfl rfl ?_
                                refine dt_iload dX12_said_200 rfl ?_
                                refine dt_iconst dX12_said_202 ?_
                                refine dt_zast dX12_said_203 rfl (by first | omega | (simp (disch := omega) only [dt_up_s, dt_up_k, dt_up_n]; omega)) (by first | omega | (simp (disch := omega) only [dt_up_s, dt_up_k, dt_up_n]; omega)) (by decide) (by first | exact Or.inl rfl | exact Or.inr rfl | assumption | omega) ?_
                                rw [Int.toNat_natCast]
                                refine dt_iinc dX12_said_204 rfl (by decide) rfl ?_
                                dsimp only [List.set]
                                refine dt_goto (tgt := 148) dX12_said_207 (by decide) ?_
                                exact dt_lb (ih (q + 1) 1 (fun x => P4 x ∨ x = k ||| r) _ (by omega) (by omega) (Or.inr rfl) hf5 (mm.mark) (Or.inl m0) hc5 (fun h => absurd h (by decide)) ⟨Nat.le_trans mn.1 hle5, fun _ => Nat.lt_of_lt_of_le (mn.2 (by omega)) hle5⟩ (Or.inl mk)) ⟨rfl, rfl, rfl, rfl, rfl, rfl, rfl, rfl, trivial⟩
                              · skip
                                have hb40 : b4 = 0 := by omega
                                refine dt_aloadn dX12_said_179 rfl rfl ?_
                                refine dt_getR dX12_said_180 pg_X12_28_12 rfl rfl ?_
                                refine dt_iload dX12_said_183 rfl ?_
                                refine dt_zald dX12_said_185 rfl (by first | omega | (simp (disch := omega) only [dt_up_s, dt_up_k, dt_up_n]; omega)) (by first | omega | (simp (disch := omega) only [dt_up_s, dt_up_k, dt_up_n]; omega)) (by decide) ?_
                                rw [Int.toNat_natCast, mm _ hor]
                                refine dt_if_ne (tgt := 193) dX12_said_186 (by decide) (by first | assumption | exact hwf _ _ | exact dt_b32 _ | omega | exact ⟨by omega, by omega⟩ | decide | exact ⟨by simp (disch := omega) only [dt_up_s, dt_up_k, dt_up_n]; omega, by simp (disch := omega) only [dt_up_s, dt_up_k, dt_up_n]; omega⟩) (fun c8 => ?_) (fun c8 => ?_)
                                · skip
                                  try simp only [dt_b0, dt_b1, Decidable.not_not, Classical.not_not] at c8
                                  have hold : P4 (k ||| r) := by assumption
                                  refine dt_iconst dX12_said_193 ?_
                                  refine dt_istore dX12_said_194 (by decide) rfl ?_
                                  dsimp only [List.set]
                                  refine dt_aloadn dX12_said_196 rfl rfl ?_
                                  refine dt_getR dX12_said_197 pg_X12_28_12 rfl rfl ?_
                                  refine dt_iload dX12_said_200 rfl ?_
                                  refine dt_iconst dX12_said_202 ?_
                                  refine dt_zast dX12_said_203 rfl (by first | omega | (simp (disch := omega) only [dt_up_s, dt_up_k, dt_up_n]; omega)) (by first | omega | (simp (disch := omega) only [dt_up_s, dt_up_k, dt_up_n]; omega)) (by decide) (by first | exact Or.inl rfl | exact Or.inr rfl | assumption | omega) ?_
                                  rw [Int.toNat_natCast]
                                  refine dt_iinc dX12_said_204 rfl (by decide) rfl ?_
                                  dsimp only [List.set]
                                  refine dt_goto (tgt := 148) dX12_said_207 (by decide) ?_
                                  have hdn : (0 : Int) = 0 → ∀ j x, ((j < k ∧ xHas tg x) ∨ (j = k ∧ (xHas (tg.take w) x ∨ x ∈ wd.2.take (q + 1)))) → P4 j → P4 (j ||| x) := fun _ j x z hj => by
                                    rcases z with z | ⟨z, z2 | z2⟩
                                    · exact md hb40 j x (Or.inl z) hj
                                    · exact md hb40 j x (Or.inr ⟨z, Or.inl z2⟩) hj
                                    · rw [List.take_add_one, hr] at z2
                                      rcases List.mem_append.mp z2 with g | g
                                      · exact md hb40 j x (Or.inr ⟨z, Or.inr g⟩) hj
                                      · obtain rfl := List.mem_singleton.mp g
                                        rw [z]; exact hold
                                  exact dt_lb (ih (q + 1) 0 P4 _ (by omega) (by omega) (Or.inl rfl) hf5 ((mm.mark).ext (fun x _ => ⟨fun z => z.elim id (fun z => z ▸ hold), Or.inl⟩)) m0 mc hdn ⟨mn.1, fun h => absurd h (by decide)⟩ mk) ⟨rfl, rfl, rfl, rfl, rfl, rfl, rfl, rfl, trivial⟩
                                · skip
                                  try simp only [dt_b0, dt_b1, Decidable.not_not, Classical.not_not] at c8
                                  have hnew : ¬ P4 (k ||| r) := by assumption
                                  refine dt_iconst dX12_said_189 ?_
                                  refine dt_goto (tgt := 194) dX12_said_190 (by decide) ?_
                                  refine dt_istore dX12_said_194 (by decide) rfl ?_
                                  dsimp only [List.set]
                                  refine dt_aloadn dX12_said_196 rfl rfl ?_
                                  refine dt_getR dX12_said_197 pg_X12_28_12 rfl rfl ?_
                                  refine dt_iload dX12_said_200 rfl ?_
                                  refine dt_iconst dX12_said_202 ?_
                                  refine dt_zast dX12_said_203 rfl (by first | omega | (simp (disch := omega) only [dt_up_s, dt_up_k, dt_up_n]; omega)) (by first | omega | (simp (disch := omega) only [dt_up_s, dt_up_k, dt_up_n]; omega)) (by decide) (by first | exact Or.inl rfl | exact Or.inr rfl | assumption | omega) ?_
                                  rw [Int.toNat_natCast]
                                  refine dt_iinc dX12_said_204 rfl (by decide) rfl ?_
                                  dsimp only [List.set]
                                  refine dt_goto (tgt := 148) dX12_said_207 (by decide) ?_
                                  have hlt5 := xCnt_lt2 (P := P4) (Q := fun x => P4 x ∨ x = k ||| r) (fun _ => Or.inl) (j := k ||| r) hnew (Or.inr rfl) 256 hor
                                  exact dt_lb (ih (q + 1) 1 (fun x => P4 x ∨ x = k ||| r) _ (by omega) (by omega) (Or.inr rfl) hf5 (mm.mark) (Or.inl m0) hc5 (fun h => absurd h (by decide)) ⟨Nat.le_trans mn.1 hle5, fun _ => Nat.lt_of_le_of_lt mn.1 hlt5⟩ (Or.inl mk)) ⟨rfl, rfl, rfl, rfl, rfl, rfl, rfl, rfl, trivial⟩
                        have hd0 : b3 = 0 → ∀ j r, ((j < k ∧ xHas tg r) ∨ (j = k ∧ (xHas (tg.take w) r ∨ r ∈ wd.2.take 0))) → P3 j → P3 (j ||| r) := fun h j r z => by
                          rcases z with z | ⟨z, z2 | z2⟩
                          · exact ld h j r (Or.inl z)
                          · exact ld h j r (Or.inr ⟨z, z2⟩)
                          · simp at z2
                        exact dt_lb (lp148 9 0 b3 P3 σ3 (by omega) (by omega) lb lf lm l0 lc hd0 ln hpk) ⟨rfl, rfl, rfl, rfl, rfl, rfl, rfl, rfl, trivial⟩
                have hd0 : b2 = 0 → ∀ j r, ((j < k ∧ xHas tg r) ∨ (j = k ∧ xHas (tg.take 0) r)) → P2 j → P2 (j ||| r) := fun h j r z => by
                  rcases z with z | ⟨z, ⟨x, hx, _⟩⟩
                  · exact kd h j r z
                  · simp at hx
                exact dt_lb (lp122 9 0 b2 P2 σ2 (by omega) (by omega) kb kf km k0 kc hd0 kn) ⟨rfl, rfl, rfl, rfl, rfl, rfl, rfl, trivial⟩
          exact dt_lb (lp111 300 0 0 P σ1 (by omega) (by omega) (Or.inl rfl) jf jm j0 jc (fun _ j r h => absurd h.1 (Nat.not_lt_zero j)) ⟨Nat.le_refl _, fun h => absurd h (by decide)⟩) ⟨rfl, rfl, rfl, rfl, rfl, rfl, trivial⟩
    exact dt_lb (lp100 600 1 xZ σs (by have := xCnt_le xZ 256; omega) (Or.inr rfl) hfs hMs rfl (fun k hk => by have hk : k = 0 := hk; subst hk; exact xCl_0 _) (fun h => absurd h (by decide))) ⟨rfl, rfl, rfl, rfl, rfl, trivial⟩
  · skip
    first | exact absurd c1 (by omega) | exact absurd c1 (by decide) | exact absurd rfl c1
theorem s_X12_sayable {ex : List dt_Shp} {σ : dt_Mem} {A : dS} {day what : Int} (hI : rInv σ A) (h_day : dt_in32 day) (h_what : dt_in32 what) (hok : dX_ok (sN A)) : dt_Sp mX12_sayable 3 0 0 [dt_R 40, dt_I day, dt_I what] (dt_SH ++ ex) σ (fun v sh2 σ2 => v = some (dt_I (oSayable A day what).1) ∧ sh2 = dt_SH ++ ex ∧ rEnd σ σ2 (oSayable A day what).2) := by
  refine dt_Sp_of (by decide) (Nat.le_of_ble_eq_true rfl) ?_
  refine dt_wfV fun hwf => ?_
  show dt_V _ _ _ 0 0 0 [some (dt_R 40), some (dt_I day), some (dt_I what)] [] _ _
  refine dt_aloadn dX12_sayable_0 rfl rfl ?_
  refine dt_iconst dX12_sayable_1 ?_
  refine dt_wfV fun hwf => ?_
  refine dt_putI dX12_sayable_2 pw_X12_53_12 rfl rfl (by first | assumption | exact hwf _ _ | exact dt_b32 _ | omega | exact ⟨by omega, by omega⟩ | decide | exact ⟨by simp (disch := omega) only [dt_up_s, dt_up_k, dt_up_n]; omega, by simp (disch := omega) only [dt_up_s, dt_up_k, dt_up_n]; omega⟩) ?_
  obtain ⟨σa, ea⟩ : ∃ z, z = dt_up σ 40 0 0 := ⟨_, rfl⟩
  rw [← ea]
  have hA := hI.up40 0 0 (by decide)
  rw [← ea] at hA
  have fa : ∀ b, (b < 40 ∨ 55 ≤ b) → σa b = σ b := fun b hb => by rw [ea]; exact dt_up_o (by omega)
  clear ea
  refine dt_wfV fun hwf => ?_
  have hX := hA.X hok
  have e0 := hX.t
  have e2 := hX.2.1
  have e7 := hA.2.2.1.2
  refine dt_aloadn dX12_sayable_5 rfl rfl ?_
  refine dt_getI dX12_sayable_6 pg_X12_179_12 rfl rfl ?_
  refine dt_if_ne (tgt := 15) dX12_sayable_9 (by decide) (by first | assumption | exact hwf _ _ | exact dt_b32 _ | omega | exact ⟨by omega, by omega⟩ | decide | exact ⟨by simp (disch := omega) only [dt_up_s, dt_up_k, dt_up_n]; omega, by simp (disch := omega) only [dt_up_s, dt_up_k, dt_up_n]; omega⟩) (fun c1 => ?_) (fun c1 => ?_)
  · skip
    rw [e7] at c1
    have hn : ¬ (sN A).1 = [] := by simpa [dt_b0] using c1
    have hn0 : 0 < (sN A).1.length := Nat.pos_of_ne_zero (fun q => hn (dt_nn.mp q))
    refine dt_iloadn dX12_sayable_15 rfl rfl ?_
    refine dt_xS dX12_sayable_16 pc_X12_223 (s_X12_isDay (by first | assumption | exact hwf _ _ | exact dt_b32 _ | omega | exact ⟨by omega, by omega⟩ | decide | exact ⟨by simp (disch := omega) only [dt_up_s, dt_up_k, dt_up_n]; omega, by simp (disch := omega) only [dt_up_s, dt_up_k, dt_up_n]; omega⟩)) rfl rfl ⟨by decide, by decide⟩ (Nat.le_of_ble_eq_true rfl) ⟨by decide, by decide⟩ (dt_k3 ?_)
    refine dt_if_eq (tgt := 54) dX12_sayable_19 (by decide) (by first | assumption | exact hwf _ _ | exact dt_b32 _ | omega | exact ⟨by omega, by omega⟩ | decide | exact ⟨by simp (disch := omega) only [dt_up_s, dt_up_k, dt_up_n]; omega, by simp (disch := omega) only [dt_up_s, dt_up_k, dt_up_n]; omega⟩) (fun c2 => ?_) (fun c2 => ?_)
    · skip
      try simp only [dt_b0, dt_b1, Decidable.not_not, Classical.not_not] at c2
      refine dt_ldc dX12_sayable_54 pk_X12_73 ?_
      refine dt_iret dX12_sayable_56 rfl (by decide) (by decide) ?_
      have e : oSayable A day what = (-1000001, A) := by
        unfold oSayable
        rw [if_neg hn, if_pos (by omega)]
      rw [e]
      exact ⟨rfl, rfl, hA, fa⟩
    · skip
      try simp only [dt_b0, dt_b1, Decidable.not_not, Classical.not_not] at c2
      refine dt_iloadn dX12_sayable_22 rfl rfl ?_
      refine dt_ui2l dX12_sayable_23 (by first | assumption | exact hwf _ _ | exact dt_b32 _ | omega | exact ⟨by omega, by omega⟩ | decide | exact ⟨by simp (disch := omega) only [dt_up_s, dt_up_k, dt_up_n]; omega, by simp (disch := omega) only [dt_up_s, dt_up_k, dt_up_n]; omega⟩) ?_
      refine dt_lconst (x := 0) dX12_sayable_24 (by decide) ?_
      refine dt_lconst (x := 1) dX12_sayable_25 (by decide) ?_
      refine dt_xS dX12_sayable_26 pc_X12_63 (s_X12_in (by first | exact ⟨by omega, by omega⟩ | decide) (by first | exact ⟨by omega, by omega⟩ | decide) (by first | exact ⟨by omega, by omega⟩ | decide)) rfl rfl ⟨by decide, by decide⟩ (Nat.le_of_ble_eq_true rfl) ⟨by decide, by decide⟩ (dt_k3 ?_)
      refine dt_if_eq (tgt := 54) dX12_sayable_29 (by decide) (by first | assumption | exact hwf _ _ | exact dt_b32 _ | omega | exact ⟨by omega, by omega⟩ | decide | exact ⟨by simp (disch := omega) only [dt_up_s, dt_up_k, dt_up_n]; omega, by simp (disch := omega) only [dt_up_s, dt_up_k, dt_up_n]; omega⟩) (fun c3 => ?_) (fun c3 => ?_)
      · skip
        try simp only [dt_b0, dt_b1, Decidable.not_not, Classical.not_not] at c3
        refine dt_ldc dX12_sayable_54 pk_X12_73 ?_
        refine dt_iret dX12_sayable_56 rfl (by decide) (by decide) ?_
        have e : oSayable A day what = (-1000001, A) := by
          unfold oSayable
          rw [if_neg hn, if_pos (by omega)]
        rw [e]
        exact ⟨rfl, rfl, hA, fa⟩
      · skip
        try simp only [dt_b0, dt_b1, Decidable.not_not, Classical.not_not] at c3
        refine dt_aloadn dX12_sayable_32 rfl rfl ?_
        refine dt_aloadn dX12_sayable_33 rfl rfl ?_
        refine dt_iloadn dX12_sayable_34 rfl rfl ?_
        refine dt_xV dX12_sayable_35 pc_X12_231 rfl (s_X12_tongueOf hX (by omega) (by omega) (by omega)) rfl rfl ⟨by decide, by decide⟩ rfl rfl (Nat.le_of_ble_eq_true rfl) ⟨by decide, by decide⟩ (dt_k3 ?_)
        obtain ⟨t, ht⟩ : ∃ t : Nat, day % ((sN A).1.length : Int) = t := ⟨(day % ((sN A).1.length : Int)).toNat, by have := Int.emod_nonneg day (b := ((sN A).1.length : Int)) (by omega); omega⟩
        have ht7 : t < (sN A).1.length := by have := Int.emod_lt_of_pos day (b := ((sN A).1.length : Int)) (by omega); omega
        rw [ht]
        obtain ⟨tg, htg⟩ := dt_lg ht7
        refine dt_iloadn dX12_sayable_38 rfl rfl ?_
        refine dt_iconst dX12_sayable_39 ?_
        refine dt_cm_ne (tgt := 47) dX12_sayable_40 (by decide) (by first | assumption | exact hwf _ _ | exact dt_b32 _ | omega | exact ⟨by omega, by omega⟩ | decide | exact ⟨by simp (disch := omega) only [dt_up_s, dt_up_k, dt_up_n]; omega, by simp (disch := omega) only [dt_up_s, dt_up_k, dt_up_n]; omega⟩) (by first | assumption | exact hwf _ _ | exact dt_b32 _ | omega | exact ⟨by omega, by omega⟩ | decide | exact ⟨by simp (disch := omega) only [dt_up_s, dt_up_k, dt_up_n]; omega, by simp (disch := omega) only [dt_up_s, dt_up_k, dt_up_n]; omega⟩) (fun c4 => ?_) (fun c4 => ?_)
        · skip
          refine dt_iconst dX12_sayable_47 ?_
          refine dt_xV dX12_sayable_48 pc_X12_270 rfl (s_X12_said0 hX htg) rfl rfl ⟨by decide, by decide⟩ rfl rfl (Nat.le_of_ble_eq_true rfl) ⟨by decide, by decide⟩ ?_
          intro vs shs σs hqs
          obtain ⟨rfl, hss, hfs⟩ := hqs
          obtain rfl := hss.symm
          refine dt_goto (tgt := 56) dX12_sayable_51 (by decide) ?_
          refine dt_iret dX12_sayable_56 rfl (by decide) (by decide) ?_
          have e : oSayable A day what = (((xCnt (xCl (xHas tg)) 256 : Nat) : Int), A) := by
            unfold oSayable
            rw [if_neg hn, if_neg (by omega), ht, Int.toNat_natCast, dt_gd htg, if_pos (by omega)]
          rw [e]
          exact ⟨rfl, rfl, hA.sy (fun k _ => by rw [hfs 40 (by decide)]) (fun b h1 h2 h3 => hfs b (by omega)), fun b hb => (hfs b (by omega)).trans (fa b hb)⟩
        · skip
          refine dt_iconst dX12_sayable_43 ?_
          refine dt_goto (tgt := 48) dX12_sayable_44 (by decide) ?_
          refine dt_xV dX12_sayable_48 pc_X12_270 rfl (s_X12_said1 hX htg) rfl rfl ⟨by decide, by decide⟩ rfl rfl (Nat.le_of_ble_eq_true rfl) ⟨by decide, by decide⟩ (dt_k3 ?_)
          refine dt_goto (tgt := 56) dX12_sayable_51 (by decide) ?_
          refine dt_iret dX12_sayable_56 rfl (by decide) (by decide) ?_
          have e : oSayable A day what = (((xSure tg 0 : Nat) : Int), A) := by
            unfold oSayable
            rw [if_neg hn, if_neg (by omega), ht, Int.toNat_natCast, dt_gd htg, if_neg (by omega)]
          rw [e]
          exact ⟨rfl, rfl, hA, fa⟩
  · skip
    rw [e7] at c1
    have hn : (sN A).1 = [] := by simpa [dt_b0] using c1
    refine dt_ldc dX12_sayable_12 pk_X12_204 ?_
    refine dt_iret dX12_sayable_14 rfl (by decide) (by decide) ?_
    have e : oSayable A day what = (-1000002, A) := by
      unfold oSayable
      rw [if_pos hn]
    rw [e]
    exact ⟨rfl, rfl, hA, fa⟩
noncomputable def xMs (X : dX) (m t : Nat) : Int := if (xLet X m t).1 = -1000000 then 0 else (xLet X m t).2
theorem xLet_0 (X : dX) (m : Nat) : ∀ t, (xLet X m t).1 = -1000000 → (xLet X m t).2 = -1000000
  | 0, _ => rfl
  | t + 1, h => by
    unfold xLet at h ⊢
    split
    · rename_i h1
      rw [if_pos h1] at h
      split
      · rename_i h2
        rw [if_pos h2] at h
        have h : (t : Int) = -1000000 := h
        omega
      · rename_i h2
        rw [if_neg h2] at h
        exact xLet_0 X m t h
    · rename_i h1
      rw [if_neg h1] at h
      exact xLet_0 X m t h
/-- a plain word more of tongue t, as the reference tries it -/
def xMore (X : dX) (t m : Nat) : dX := (X.1.set t (X.1.getD t [] ++ [(1, [m])]), X.2)
theorem xMore_at {X : dX} {t m : Nat} {tg : List (Nat × List Nat)} (h : X.1[t]? = some tg) : (xMore X t m).1[t]? = some (tg ++ [(1, [m])]) := by
  unfold xMore
  show (X.1.set t _)[t]? = _
  rw [List.getElem?_set_self (dt_gl h), dt_gd h]
theorem xMore_ok {X : dX} {t m : Nat} {tg : List (Nat × List Nat)} (ok : dX_ok X) (h : X.1[t]? = some tg) (hl : tg.length < 8) (h1 : 1 ≤ m) (h2 : m < 256) : dX_ok (xMore X t m) := by
  unfold xMore
  rw [dt_gd h]
  obtain ⟨a1, a2, a3, a4⟩ := ok
  have b := a2 tg (List.mem_of_getElem? h)
  refine ⟨by rw [List.length_set]; exact a1, fun x hx => ?_, a3, by rw [List.length_set]; exact a4⟩
  rcases List.mem_or_eq_of_mem_set hx with g | rfl
  · exact a2 x g
  · refine ⟨by rw [List.length_append]; exact hl, fun wd hw => ?_⟩
    rcases List.mem_append.mp hw with g | g
    · exact b.2 wd g
    · obtain rfl := List.mem_singleton.mp g
      exact ⟨by show 1 ≤ 1; decide, by show 1 ≤ 5; decide, by show 1 ≤ 1; decide, by show 1 ≤ 3; decide, fun _ => rfl, fun r hr => by obtain rfl := List.mem_singleton.mp hr; exact ⟨h1, h2⟩⟩
theorem rX.more {σ σ' : dt_Mem} {X : dX} {t m : Nat} {tg : List (Nat × List Nat)} (hX : rX σ X) (h : X.1[t]? = some tg) (hl : tg.length < 8) (h1 : 1 ≤ m) (h2 : m < 256) (e0 : σ' 44 (18 + 40 * t + 5 * tg.length) = 1) (e1 : σ' 44 (18 + 40 * t + 5 * tg.length + 1) = 1) (e2 : σ' 44 (18 + 40 * t + 5 * tg.length + 2) = m) (e3 : σ' 44 (3 + t) = (tg.length : Int) + 1) (e : ∀ j, j ≠ 18 + 40 * t + 5 * tg.length → j ≠ 18 + 40 * t + 5 * tg.length + 1 → j ≠ 18 + 40 * t + 5 * tg.length + 2 → j ≠ 3 + t → σ' 44 j = σ 44 j) : rX σ' (xMore X t m) := by
  have ok2 := xMore_ok hX.2 h hl h1 h2
  obtain ⟨⟨p1, p2, p3, p4, p5⟩, ok⟩ := hX
  have lt := dt_gl h
  have l7 := ok.1
  have l8 := ok.2.2.1
  unfold xMore at ok2 ⊢
  rw [dt_gd h] at ok2 ⊢
  refine ⟨⟨by rw [e 0 (by omega) (by omega) (by omega) (by omega)]; show σ 44 0 = ((X.1.set t _).length : Nat); rw [List.length_set]; exact p1, (e 1 (by omega) (by omega) (by omega) (by omega)).trans p2, (e 2 (by omega) (by omega) (by omega) (by omega)).trans p3, fun t2 tg2 ht2 => ?_, fun i k hk => ?_⟩, ok2⟩
  · rcases dt_st ht2 with ⟨hne, g⟩ | ⟨rfl, rfl⟩
    · obtain ⟨a1, a2⟩ := p4 t2 tg2 g
      have l2 := dt_gl g
      have lw := (ok.2.1 tg2 (List.mem_of_getElem? g)).1
      refine ⟨(e _ (by omega) (by omega) (by omega) (by omega)).trans a1, fun w wd hw => ?_⟩
      obtain ⟨b1, b2, b3⟩ := a2 w wd hw
      have gw := dt_gl hw
      have l3 := ((ok.2.1 tg2 (List.mem_of_getElem? g)).2 wd (List.mem_of_getElem? hw)).2.2.2.1
      exact ⟨(e _ (by omega) (by omega) (by omega) (by omega)).trans b1, (e _ (by omega) (by omega) (by omega) (by omega)).trans b2, fun q r hq => (e _ (by have := dt_gl hq; omega) (by have := dt_gl hq; omega) (by have := dt_gl hq; omega) (by have := dt_gl hq; omega)).trans (b3 q r hq)⟩
    · obtain ⟨a1, a2⟩ := p4 t2 tg h
      refine ⟨by rw [Nat.zero_add, e3, List.length_append]; rfl, fun w wd hw => ?_⟩
      rcases dt_ap hw with g | ⟨rfl, rfl⟩
      · obtain ⟨b1, b2, b3⟩ := a2 w wd g
        have gw := dt_gl g
        have l3 := ((ok.2.1 tg (List.mem_of_getElem? h)).2 wd (List.mem_of_getElem? g)).2.2.2.1
        exact ⟨(e _ (by omega) (by omega) (by omega) (by omega)).trans b1, (e _ (by omega) (by omega) (by omega) (by omega)).trans b2, fun q r hq => (e _ (by have := dt_gl hq; omega) (by have := dt_gl hq; omega) (by have := dt_gl hq; omega) (by have := dt_gl hq; omega)).trans (b3 q r hq)⟩
      · rw [Nat.zero_add, Nat.zero_add]
        refine ⟨e0, e1, fun q r hq => ?_⟩
        have gq := dt_gl hq
        have gq : q < 1 := gq
        obtain rfl : q = 0 := by omega
        obtain rfl : m = r := Option.some.inj hq
        rw [Nat.zero_add]
        exact e2
  · have gi : i < X.2.1.length := dt_gl hk
    exact (e _ (by omega) (by omega) (by omega) (by omega)).trans (p5 i k hk)
theorem rX.less {σ σ' : dt_Mem} {X : dX} {t : Nat} {tg : List (Nat × List Nat)} (hX : rX σ X) (h : X.1[t]? = some tg) (hl : tg.length < 8) (e3 : σ' 44 (3 + t) = tg.length) (e : ∀ j, j ≠ 18 + 40 * t + 5 * tg.length → j ≠ 18 + 40 * t + 5 * tg.length + 1 → j ≠ 18 + 40 * t + 5 * tg.length + 2 → j ≠ 3 + t → σ' 44 j = σ 44 j) : rX σ' X := by
  obtain ⟨⟨p1, p2, p3, p4, p5⟩, ok⟩ := hX
  have lt := dt_gl h
  have l7 := ok.1
  have l8 := ok.2.2.1
  refine ⟨⟨(e 0 (by omega) (by omega) (by omega) (by omega)).trans p1, (e 1 (by omega) (by omega) (by omega) (by omega)).trans p2, (e 2 (by omega) (by omega) (by omega) (by omega)).trans p3, fun t2 tg2 ht2 => ?_, fun i k hk => ?_⟩, ok⟩
  · obtain ⟨a1, a2⟩ := p4 t2 tg2 ht2
    have l2 := dt_gl ht2
    have lw := (ok.2.1 tg2 (List.mem_of_getElem? ht2)).1
    by_cases e4 : t2 = t
    · subst e4
      obtain rfl := Option.some.inj (h.symm.trans ht2)
      refine ⟨by rw [Nat.zero_add]; exact e3, fun w wd hw => ?_⟩
      obtain ⟨b1, b2, b3⟩ := a2 w wd hw
      have gw := dt_gl hw
      have l3 := ((ok.2.1 tg (List.mem_of_getElem? h)).2 wd (List.mem_of_getElem? hw)).2.2.2.1
      exact ⟨(e _ (by omega) (by omega) (by omega) (by omega)).trans b1, (e _ (by omega) (by omega) (by omega) (by omega)).trans b2, fun q r hq => (e _ (by have := dt_gl hq; omega) (by have := dt_gl hq; omega) (by have := dt_gl hq; omega) (by have := dt_gl hq; omega)).trans (b3 q r hq)⟩
    · refine ⟨(e _ (by omega) (by omega) (by omega) (by omega)).trans a1, fun w wd hw => ?_⟩
      obtain ⟨b1, b2, b3⟩ := a2 w wd hw
      have gw := dt_gl hw
      have l3 := ((ok.2.1 tg2 (List.mem_of_getElem? ht2)).2 wd (List.mem_of_getElem? hw)).2.2.2.1
      exact ⟨(e _ (by omega) (by omega) (by omega) (by omega)).trans b1, (e _ (by omega) (by omega) (by omega) (by omega)).trans b2, fun q r hq => (e _ (by have := dt_gl hq; omega) (by have := dt_gl hq; omega) (by have := dt_gl hq; omega) (by have := dt_gl hq; omega)).trans (b3 q r hq)⟩
  · have gi := dt_gl hk
    exact (e _ (by omega) (by omega) (by omega) (by omega)).trans (p5 i k hk)
theorem s_X12_letIn {ex : List dt_Shp} {σ : dt_Mem} {A : dS} {m : Int} (hI : rInv σ A) (h_m : dt_in32 m) (hok : dX_ok (sN A)) : dt_Sp mX12_letIn 4 0 0 [dt_R 40, dt_I m] (dt_SH ++ ex) σ (fun v sh2 σ2 => v = some (dt_I (oLetIn A m).1) ∧ sh2 = dt_SH ++ ex ∧ rEnd σ σ2 (oLetIn A m).2) := by
  refine dt_Sp_of (by decide) (Nat.le_of_ble_eq_true rfl) ?_
  refine dt_wfV fun hwf => ?_
  show dt_V _ _ _ 0 0 0 [some (dt_R 40), some (dt_I m), none, none, none, none, none, none, none] [] _ _
  refine dt_aloadn dX12_letIn_0 rfl rfl ?_
  refine dt_iconst dX12_letIn_1 ?_
  refine dt_wfV fun hwf => ?_
  refine dt_putI dX12_letIn_2 pw_X12_53_12 rfl rfl (by first | assumption | exact hwf _ _ | exact dt_b32 _ | omega | exact ⟨by omega, by omega⟩ | decide | exact ⟨by simp (disch := omega) only [dt_up_s, dt_up_k, dt_up_n]; omega, by simp (disch := omega) only [dt_up_s, dt_up_k, dt_up_n]; omega⟩) ?_
  obtain ⟨σa, ea⟩ : ∃ z, z = dt_up σ 40 0 0 := ⟨_, rfl⟩
  rw [← ea]
  have hA := hI.up40 0 0 (by decide)
  rw [← ea] at hA
  have fa : ∀ b, (b < 40 ∨ 55 ≤ b) → σa b = σ b := fun b hb => by rw [ea]; exact dt_up_o (by omega)
  clear ea
  refine dt_wfV fun hwf => ?_
  have hX := hA.X hok
  have e0 := hX.t
  have e2 := hX.2.1
  have e7 := hA.2.2.1.2
  refine dt_aloadn dX12_letIn_5 rfl rfl ?_
  refine dt_getI dX12_letIn_6 pg_X12_179_12 rfl rfl ?_
  refine dt_if_ne (tgt := 15) dX12_letIn_9 (by decide) (by first | assumption | exact hwf _ _ | exact dt_b32 _ | omega | exact ⟨by omega, by omega⟩ | decide | exact ⟨by simp (disch := omega) only [dt_up_s, dt_up_k, dt_up_n]; omega, by simp (disch := omega) only [dt_up_s, dt_up_k, dt_up_n]; omega⟩) (fun c1 => ?_) (fun c1 => ?_)
  · skip
    rw [e7] at c1
    have hn : ¬ (sN A).1 = [] := by simpa [dt_b0] using c1
    have hn0 : 0 < (sN A).1.length := Nat.pos_of_ne_zero (fun q => hn (dt_nn.mp q))
    refine dt_iloadn dX12_letIn_15 rfl rfl ?_
    refine dt_ui2l dX12_letIn_16 (by first | assumption | exact hwf _ _ | exact dt_b32 _ | omega | exact ⟨by omega, by omega⟩ | decide | exact ⟨by simp (disch := omega) only [dt_up_s, dt_up_k, dt_up_n]; omega, by simp (disch := omega) only [dt_up_s, dt_up_k, dt_up_n]; omega⟩) ?_
    refine dt_lconst (x := 1) dX12_letIn_17 (by decide) ?_
    refine dt_ldc2 dX12_letIn_18 pk_X12_84 ?_
    refine dt_xS dX12_letIn_21 pc_X12_63 (s_X12_in (by first | exact ⟨by omega, by omega⟩ | decide) (by first | exact ⟨by omega, by omega⟩ | decide) (by first | exact ⟨by omega, by omega⟩ | decide)) rfl rfl ⟨by decide, by decide⟩ (Nat.le_of_ble_eq_true rfl) ⟨by decide, by decide⟩ (dt_k3 ?_)
    refine dt_if_ne (tgt := 30) dX12_letIn_24 (by decide) (by first | assumption | exact hwf _ _ | exact dt_b32 _ | omega | exact ⟨by omega, by omega⟩ | decide | exact ⟨by simp (disch := omega) only [dt_up_s, dt_up_k, dt_up_n]; omega, by simp (disch := omega) only [dt_up_s, dt_up_k, dt_up_n]; omega⟩) (fun c2 => ?_) (fun c2 => ?_)
    · skip
      try simp only [dt_b0, dt_b1, Decidable.not_not, Classical.not_not] at c2
      refine dt_ldc dX12_letIn_30 pk_X12_89 ?_
      refine dt_istoren dX12_letIn_32 rfl (by decide) rfl ?_
      dsimp only [List.set]
      obtain ⟨m, rfl⟩ : ∃ z : Nat, m = z := ⟨m.toNat, by omega⟩
      refine dt_iconst dX12_letIn_33 ?_
      refine dt_istoren dX12_letIn_34 rfl (by decide) rfl ?_
      dsimp only [List.set]
      refine dt_iconst dX12_letIn_35 ?_
      refine dt_istore dX12_letIn_36 (by decide) rfl ?_
      dsimp only [List.set]
      have lp38 : ∀ (fu : Nat) (t : Nat) (σ1 : dt_Mem), ((sN A).1.length : Int) - t < (fu : Int) → (t ≤ (sN A).1.length) → (∀ b, b ≠ 44 → σ1 b = σa b) → (rX σ1 (sN A)) →  dt_V mX12_letIn (dt_rm 4 0 0) (dt_MC (fun v sh2 σ2 => v = some (dt_I (oLetIn A m).1) ∧ sh2 = dt_SH ++ ex ∧ rEnd σ σ2 (oLetIn A m).2) 0 0) 0 0 38 [some (dt_R 40), some (dt_I (m : Int)), some (dt_I (xLet (sN A) m t).1), some (dt_I (xMs (sN A) m t)), some (dt_I (t : Int)), none, none, none, none] [] (dt_SH ++ ex) σ1 := by
        intro fu
        induction fu with
        | zero =>
          intro t σ1 hm tl jf jX
          exfalso
          omega
        | succ fu ih =>
          intro t σ1 hm tl jf jX
          refine dt_wfV fun hwf => ?_
          have xin := xLet_in (sN A) m t (by omega)
          refine dt_iload dX12_letIn_38 rfl ?_
          refine dt_aloadn dX12_letIn_40 rfl rfl ?_
          refine dt_getR dX12_letIn_41 pg_X12_19_12 rfl rfl ?_
          refine dt_iconst dX12_letIn_44 ?_
          refine dt_iald dX12_letIn_45 rfl (by first | omega | (simp (disch := omega) only [dt_up_s, dt_up_k, dt_up_n]; omega)) (by first | omega | (simp (disch := omega) only [dt_up_s, dt_up_k, dt_up_n]; omega)) (by decide) ?_
          rw [show Int.toNat 0 = 0 from rfl, jX.t]
          refine dt_cm_ge (tgt := 209) dX12_letIn_46 (by decide) (by first | assumption | exact hwf _ _ | exact dt_b32 _ | omega | exact ⟨by omega, by omega⟩ | decide | exact ⟨by simp (disch := omega) only [dt_up_s, dt_up_k, dt_up_n]; omega, by simp (disch := omega) only [dt_up_s, dt_up_k, dt_up_n]; omega⟩) (by first | assumption | exact hwf _ _ | exact dt_b32 _ | omega | exact ⟨by omega, by omega⟩ | decide | exact ⟨by simp (disch := omega) only [dt_up_s, dt_up_k, dt_up_n]; omega, by simp (disch := omega) only [dt_up_s, dt_up_k, dt_up_n]; omega⟩) (fun c3 => ?_) (fun c3 => ?_)
          · skip
            refine dt_iloadn dX12_letIn_209 rfl rfl ?_
            refine dt_iret dX12_letIn_210 rfl (by decide) (by decide) ?_
            have e : oLetIn A m = ((xLet (sN A) m (sN A).1.length).1, A) := by
              unfold oLetIn
              rw [if_neg hn, if_neg (by omega), Int.toNat_natCast]
            rw [e, show (sN A).1.length = t by omega]
            exact ⟨rfl, rfl, hA.port (X := sN A) jX.1 Iff.rfl (fun k _ => congrFun (jf 40 (by decide)) k) (fun b h1 h2 h3 => jf b h3), fun b hb => (jf b (by omega)).trans (fa b hb)⟩
          · skip
            obtain ⟨tg, htg⟩ := dt_lg (l := (sN A).1) (i := t) (by omega)
            obtain ⟨f1, f2, f3, f4, f5⟩ := jX.tg htg
            refine dt_aloadn dX12_letIn_49 rfl rfl ?_
            refine dt_getR dX12_letIn_50 pg_X12_19_12 rfl rfl ?_
            refine dt_iconst dX12_letIn_53 ?_
            refine dt_iload dX12_letIn_54 rfl ?_
            refine dt_iadd dX12_letIn_56 ?_
            refine dt_iald dX12_letIn_57 rfl (by first | omega | (simp (disch := omega) only [dt_up_s, dt_up_k, dt_up_n]; omega)) (by first | omega | (simp (disch := omega) only [dt_up_s, dt_up_k, dt_up_n]; omega)) (by decide) ?_
            rw [show ((3 : Int) + (t : Int)).toNat = 3 + t by omega, f1]
            refine dt_bipush dX12_letIn_58 (by decide) ?_
            refine dt_cm_ge (tgt := 203) dX12_letIn_60 (by decide) (by first | assumption | exact hwf _ _ | exact dt_b32 _ | omega | exact ⟨by omega, by omega⟩ | decide | exact ⟨by simp (disch := omega) only [dt_up_s, dt_up_k, dt_up_n]; omega, by simp (disch := omega) only [dt_up_s, dt_up_k, dt_up_n]; omega⟩) (by first | assumption | exact hwf _ _ | exact dt_b32 _ | omega | exact ⟨by omega, by omega⟩ | decide | exact ⟨by simp (disch := omega) only [dt_up_s, dt_up_k, dt_up_n]; omega, by simp (disch := omega) only [dt_up_s, dt_up_k, dt_up_n]; omega⟩) (fun c4 => ?_) (fun c4 => ?_)
            · skip
              have hk : ¬ tg.length < 8 := by omega
              refine dt_iinc dX12_letIn_203 rfl (by decide) rfl ?_
              dsimp only [List.set]
              refine dt_goto (tgt := 38) dX12_letIn_206 (by decide) ?_
              have hL := xLet_k (m := m) htg hk
              have hval3 : xMs (sN A) m t = xMs (sN A) m (t + 1) := by unfold xMs; rw [hL]
              exact dt_lb (ih (t + 1) σ1 (by omega) (by omega) jf jX) ⟨rfl, rfl, (dt_ie (by rw [hL])), (dt_ie hval3), rfl, trivial⟩
            · skip
              have hk : tg.length < 8 := by omega
              have s1 := xSure_le tg m
              have s2 := xSure_le tg 0
              refine dt_aloadn dX12_letIn_63 rfl rfl ?_
              refine dt_iload dX12_letIn_64 rfl ?_
              refine dt_iconst dX12_letIn_66 ?_
              refine dt_xV dX12_letIn_67 pc_X12_270 rfl (s_X12_said1 jX htg) rfl rfl ⟨by decide, by decide⟩ rfl rfl (Nat.le_of_ble_eq_true rfl) ⟨by decide, by decide⟩ (dt_k3 ?_)
              refine dt_istore dX12_letIn_70 (by decide) rfl ?_
              dsimp only [List.set]
              refine dt_bipush dX12_letIn_72 (by decide) ?_
              refine dt_bipush dX12_letIn_74 (by decide) ?_
              refine dt_iload dX12_letIn_76 rfl ?_
              refine dt_imul dX12_letIn_78 ?_
              refine dt_iadd dX12_letIn_79 ?_
              refine dt_iconst dX12_letIn_80 ?_
              refine dt_aloadn dX12_letIn_81 rfl rfl ?_
              refine dt_getR dX12_letIn_82 pg_X12_19_12 rfl rfl ?_
              refine dt_iconst dX12_letIn_85 ?_
              refine dt_iload dX12_letIn_86 rfl ?_
              refine dt_iadd dX12_letIn_88 ?_
              refine dt_iald dX12_letIn_89 rfl (by first | omega | (simp (disch := omega) only [dt_up_s, dt_up_k, dt_up_n]; omega)) (by first | omega | (simp (disch := omega) only [dt_up_s, dt_up_k, dt_up_n]; omega)) (by decide) ?_
              rw [show ((3 : Int) + (t : Int)).toNat = 3 + t by omega, f1]
              refine dt_imul dX12_letIn_90 ?_
              refine dt_iadd dX12_letIn_91 ?_
              refine dt_istore dX12_letIn_92 (by decide) rfl ?_
              dsimp only [List.set]
              refine dt_aloadn dX12_letIn_94 rfl rfl ?_
              have hix : (18 + 40 * (t : Int) + 5 * (tg.length : Int)).toNat = 18 + 40 * t + 5 * tg.length := by omega
              refine dt_getR dX12_letIn_95 pg_X12_19_12 rfl rfl ?_
              refine dt_iload dX12_letIn_98 rfl ?_
              refine dt_iconst dX12_letIn_100 ?_
              refine dt_wfV fun hwf => ?_
              refine dt_iast dX12_letIn_101 rfl (by first | omega | (simp (disch := omega) only [dt_up_s, dt_up_k, dt_up_n]; omega)) (by first | omega | (simp (disch := omega) only [dt_up_s, dt_up_k, dt_up_n]; omega)) (by decide) (by first | assumption | exact hwf _ _ | exact dt_b32 _ | omega | exact ⟨by omega, by omega⟩ | decide | exact ⟨by simp (disch := omega) only [dt_up_s, dt_up_k, dt_up_n]; omega, by simp (disch := omega) only [dt_up_s, dt_up_k, dt_up_n]; omega⟩) ?_
              rw [hix]
              refine dt_aloadn dX12_letIn_102 rfl rfl ?_
              refine dt_getR dX12_letIn_103 pg_X12_19_12 rfl rfl ?_
              refine dt_iload dX12_letIn_106 rfl ?_
              refine dt_iconst dX12_letIn_108 ?_
              refine dt_iadd dX12_letIn_109 ?_
              refine dt_iconst dX12_letIn_110 ?_
              refine dt_wfV fun hwf => ?_
              refine dt_iast dX12_letIn_111 rfl (by first | omega | (simp (disch := omega) only [dt_up_s, dt_up_k, dt_up_n]; omega)) (by first | omega | (simp (disch := omega) only [dt_up_s, dt_up_k, dt_up_n]; omega)) (by decide) (by first | assumption | exact hwf _ _ | exact dt_b32 _ | omega | exact ⟨by omega, by omega⟩ | decide | exact ⟨by simp (disch := omega) only [dt_up_s, dt_up_k, dt_up_n]; omega, by simp (disch := omega) only [dt_up_s, dt_up_k, dt_up_n]; omega⟩) ?_
              rw [show (18 + 40 * (t : Int) + 5 * (tg.length : Int) + 1).toNat = 18 + 40 * t + 5 * tg.length + 1 by omega]
              refine dt_aloadn dX12_letIn_112 rfl rfl ?_
              refine dt_getR dX12_letIn_113 pg_X12_19_12 rfl rfl ?_
              refine dt_iload dX12_letIn_116 rfl ?_
              refine dt_iconst dX12_letIn_118 ?_
              refine dt_iadd dX12_letIn_119 ?_
              refine dt_iloadn dX12_letIn_120 rfl rfl ?_
              refine dt_wfV fun hwf => ?_
              refine dt_iast dX12_letIn_121 rfl (by first | omega | (simp (disch := omega) only [dt_up_s, dt_up_k, dt_up_n]; omega)) (by first | omega | (simp (disch := omega) only [dt_up_s, dt_up_k, dt_up_n]; omega)) (by decide) (by first | assumption | exact hwf _ _ | exact dt_b32 _ | omega | exact ⟨by omega, by omega⟩ | decide | exact ⟨by simp (disch := omega) only [dt_up_s, dt_up_k, dt_up_n]; omega, by simp (disch := omega) only [dt_up_s, dt_up_k, dt_up_n]; omega⟩) ?_
              rw [show (18 + 40 * (t : Int) + 5 * (tg.length : Int) + 2).toNat = 18 + 40 * t + 5 * tg.length + 2 by omega]
              refine dt_aloadn dX12_letIn_122 rfl rfl ?_
              refine dt_getR dX12_letIn_123 pg_X12_19_12 rfl rfl ?_
              refine dt_iconst dX12_letIn_126 ?_
              refine dt_iload dX12_letIn_127 rfl ?_
              refine dt_iadd dX12_letIn_129 ?_
              refine dt_dup2 dX12_letIn_130 ?_
              refine dt_iald dX12_letIn_131 rfl (by first | omega | (simp (disch := omega) only [dt_up_s, dt_up_k, dt_up_n]; omega)) (by first | omega | (simp (disch := omega) only [dt_up_s, dt_up_k, dt_up_n]; omega)) (by decide) ?_
              rw [show ((3 : Int) + (t : Int)).toNat = 3 + t by omega, dt_up_k (by omega), dt_up_k (by omega), dt_up_k (by omega), f1]
              refine dt_iconst dX12_letIn_132 ?_
              refine dt_iadd dX12_letIn_133 ?_
              refine dt_wfV fun hwf => ?_
              refine dt_iast dX12_letIn_134 rfl (by first | omega | (simp (disch := omega) only [dt_up_s, dt_up_k, dt_up_n]; omega)) (by first | omega | (simp (disch := omega) only [dt_up_s, dt_up_k, dt_up_n]; omega)) (by decide) (by first | assumption | exact hwf _ _ | exact dt_b32 _ | omega | exact ⟨by omega, by omega⟩ | decide | exact ⟨by simp (disch := omega) only [dt_up_s, dt_up_k, dt_up_n]; omega, by simp (disch := omega) only [dt_up_s, dt_up_k, dt_up_n]; omega⟩) ?_
              rw [show ((3 : Int) + (t : Int)).toNat = 3 + t by omega]
              obtain ⟨σc, ec⟩ : ∃ z, z = dt_up (dt_up (dt_up (dt_up σ1 44 (18 + 40 * t + 5 * tg.length) 1) 44 (18 + 40 * t + 5 * tg.length + 1) 1) 44 (18 + 40 * t + 5 * tg.length + 2) (m : Int)) 44 (3 + t) ((tg.length : Int) + 1) := ⟨_, rfl⟩
              rw [← ec]
              have hce : ∀ j, j ≠ 18 + 40 * t + 5 * tg.length → j ≠ 18 + 40 * t + 5 * tg.length + 1 → j ≠ 18 + 40 * t + 5 * tg.length + 2 → j ≠ 3 + t → σc 44 j = σ1 44 j := fun j h1 h2 h3 h4 => by rw [ec, dt_up_k h4, dt_up_k h3, dt_up_k h2, dt_up_k h1]
              have hcb : ∀ b, b ≠ 44 → σc b = σ1 b := fun b hb => by rw [ec, dt_up_o hb, dt_up_o hb, dt_up_o hb, dt_up_o hb]
              have hXc : rX σc (xMore (sN A) t m) := jX.more htg hk (by omega) (by omega) (by rw [ec]; simp (disch := omega) only [dt_up_k, dt_up_s]) (by rw [ec]; simp (disch := omega) only [dt_up_k, dt_up_s]) (by rw [ec]; simp (disch := omega) only [dt_up_k, dt_up_s]) (by rw [ec]; simp (disch := omega) only [dt_up_k, dt_up_s]) hce
              have hc3 : σc 44 (3 + t) = (tg.length : Int) + 1 := by rw [ec, dt_up_s]
              clear ec
              refine dt_wfV fun hwf => ?_
              refine dt_aloadn dX12_letIn_135 rfl rfl ?_
              refine dt_iload dX12_letIn_136 rfl ?_
              refine dt_iconst dX12_letIn_138 ?_
              refine dt_xV dX12_letIn_139 pc_X12_270 rfl (s_X12_said1 hXc (xMore_at htg)) rfl rfl ⟨by decide, by decide⟩ rfl rfl (Nat.le_of_ble_eq_true rfl) ⟨by decide, by decide⟩ (dt_k3 ?_)
              rw [xSure_p (by omega)]
              refine dt_iload dX12_letIn_142 rfl ?_
              refine dt_isub dX12_letIn_144 ?_
              refine dt_istore dX12_letIn_145 (by decide) rfl ?_
              dsimp only [List.set]
              refine dt_aloadn dX12_letIn_147 rfl rfl ?_
              refine dt_getR dX12_letIn_148 pg_X12_19_12 rfl rfl ?_
              refine dt_iconst dX12_letIn_151 ?_
              refine dt_iload dX12_letIn_152 rfl ?_
              refine dt_iadd dX12_letIn_154 ?_
              refine dt_dup2 dX12_letIn_155 ?_
              refine dt_iald dX12_letIn_156 rfl (by first | omega | (simp (disch := omega) only [dt_up_s, dt_up_k, dt_up_n]; omega)) (by first | omega | (simp (disch := omega) only [dt_up_s, dt_up_k, dt_up_n]; omega)) (by decide) ?_
              rw [show ((3 : Int) + (t : Int)).toNat = 3 + t by omega, hc3]
              refine dt_iconst dX12_letIn_157 ?_
              refine dt_isub dX12_letIn_158 ?_
              refine dt_wfV fun hwf => ?_
              refine dt_iast dX12_letIn_159 rfl (by first | omega | (simp (disch := omega) only [dt_up_s, dt_up_k, dt_up_n]; omega)) (by first | omega | (simp (disch := omega) only [dt_up_s, dt_up_k, dt_up_n]; omega)) (by decide) (by first | assumption | exact hwf _ _ | exact dt_b32 _ | omega | exact ⟨by omega, by omega⟩ | decide | exact ⟨by simp (disch := omega) only [dt_up_s, dt_up_k, dt_up_n]; omega, by simp (disch := omega) only [dt_up_s, dt_up_k, dt_up_n]; omega⟩) ?_
              rw [show ((3 : Int) + (t : Int)).toNat = 3 + t by omega]
              obtain ⟨σd, ed⟩ : ∃ z, z = dt_up σc 44 (3 + t) ((tg.length : Int) + 1 - 1) := ⟨_, rfl⟩
              rw [← ed]
              have hfd : ∀ b, b ≠ 44 → σd b = σa b := fun b hb => by rw [ed, dt_up_o hb, hcb b hb]; exact jf b hb
              have hXd : rX σd (sN A) := jX.less htg hk (by rw [ed, dt_up_s]; omega) (fun j h1 h2 h3 h4 => by rw [ed, dt_up_k h4]; exact hce j h1 h2 h3 h4)
              clear ed
              have xms : -1000000 ≤ xMs (sN A) m t ∧ xMs (sN A) m t ≤ 256 := by unfold xMs; split <;> omega
              refine dt_iloadn dX12_letIn_160 rfl rfl ?_
              refine dt_ldc dX12_letIn_161 pk_X12_89 ?_
              refine dt_cm_eq (tgt := 172) dX12_letIn_163 (by decide) (by first | assumption | exact hwf _ _ | exact dt_b32 _ | omega | exact ⟨by omega, by omega⟩ | decide | exact ⟨by simp (disch := omega) only [dt_up_s, dt_up_k, dt_up_n]; omega, by simp (disch := omega) only [dt_up_s, dt_up_k, dt_up_n]; omega⟩) (by first | assumption | exact hwf _ _ | exact dt_b32 _ | omega | exact ⟨by omega, by omega⟩ | decide | exact ⟨by simp (disch := omega) only [dt_up_s, dt_up_k, dt_up_n]; omega, by simp (disch := omega) only [dt_up_s, dt_up_k, dt_up_n]; omega⟩) (fun c5 => ?_) (fun c5 => ?_)
              · skip
                have hg : (xLet (sN A) m t).2 < (xSure tg m : Int) - (xSure tg 0 : Int) := by have := xLet_0 (sN A) m t (by assumption); omega
                refine dt_iconst dX12_letIn_172 ?_
                refine dt_goto (tgt := 177) dX12_letIn_173 (by decide) ?_
                refine dt_istore dX12_letIn_177 (by decide) rfl ?_
                dsimp only [List.set]
                refine dt_iload dX12_letIn_179 rfl ?_
                refine dt_if_eq (tgt := 189) dX12_letIn_181 (by decide) (by first | assumption | exact hwf _ _ | exact dt_b32 _ | omega | exact ⟨by omega, by omega⟩ | decide | exact ⟨by simp (disch := omega) only [dt_up_s, dt_up_k, dt_up_n]; omega, by simp (disch := omega) only [dt_up_s, dt_up_k, dt_up_n]; omega⟩) (fun c6 => ?_) (fun c6 => ?_)
                · skip
                  first | exact absurd c6 (by omega) | exact absurd c6 (by decide) | exact absurd rfl c6
                · skip
                  refine dt_iload dX12_letIn_184 rfl ?_
                  refine dt_goto (tgt := 190) dX12_letIn_186 (by decide) ?_
                  refine dt_istoren dX12_letIn_190 rfl (by decide) rfl ?_
                  dsimp only [List.set]
                  refine dt_iload dX12_letIn_191 rfl ?_
                  refine dt_if_eq (tgt := 201) dX12_letIn_193 (by decide) (by first | assumption | exact hwf _ _ | exact dt_b32 _ | omega | exact ⟨by omega, by omega⟩ | decide | exact ⟨by simp (disch := omega) only [dt_up_s, dt_up_k, dt_up_n]; omega, by simp (disch := omega) only [dt_up_s, dt_up_k, dt_up_n]; omega⟩) (fun c7 => ?_) (fun c7 => ?_)
                  · skip
                    first | exact absurd c7 (by omega) | exact absurd c7 (by decide) | exact absurd rfl c7
                  · skip
                    refine dt_iload dX12_letIn_196 rfl ?_
                    refine dt_goto (tgt := 202) dX12_letIn_198 (by decide) ?_
                    refine dt_istoren dX12_letIn_202 rfl (by decide) rfl ?_
                    dsimp only [List.set]
                    refine dt_iinc dX12_letIn_203 rfl (by decide) rfl ?_
                    dsimp only [List.set]
                    refine dt_goto (tgt := 38) dX12_letIn_206 (by decide) ?_
                    have hL := xLet_y (m := m) htg hk hg
                    have hval3 : (xSure tg m : Int) - (xSure tg 0 : Int) = xMs (sN A) m (t + 1) := by unfold xMs; rw [hL]; exact (if_neg (show ¬ (t : Int) = -1000000 by omega)).symm
                    exact dt_lb (ih (t + 1) σd (by omega) (by omega) hfd hXd) ⟨rfl, rfl, (dt_ie (by rw [hL])), (dt_ie hval3), rfl, trivial⟩
              · skip
                have hb1 : ¬ (xLet (sN A) m t).1 = -1000000 := by assumption
                refine dt_iload dX12_letIn_166 rfl ?_
                refine dt_iloadn dX12_letIn_168 rfl rfl ?_
                refine dt_cm_le (tgt := 176) dX12_letIn_169 (by decide) (by first | assumption | exact hwf _ _ | exact dt_b32 _ | omega | exact ⟨by omega, by omega⟩ | decide | exact ⟨by simp (disch := omega) only [dt_up_s, dt_up_k, dt_up_n]; omega, by simp (disch := omega) only [dt_up_s, dt_up_k, dt_up_n]; omega⟩) (by first | assumption | exact hwf _ _ | exact dt_b32 _ | omega | exact ⟨by omega, by omega⟩ | decide | exact ⟨by simp (disch := omega) only [dt_up_s, dt_up_k, dt_up_n]; omega, by simp (disch := omega) only [dt_up_s, dt_up_k, dt_up_n]; omega⟩) (fun c8 => ?_) (fun c8 => ?_)
                · skip
                  have hg : ¬ (xLet (sN A) m t).2 < (xSure tg m : Int) - (xSure tg 0 : Int) := by
                    have z : (xSure tg m : Int) - (xSure tg 0 : Int) ≤ xMs (sN A) m t := (by assumption)
                    unfold xMs at z
                    rw [if_neg hb1] at z
                    omega
                  refine dt_iconst dX12_letIn_176 ?_
                  refine dt_istore dX12_letIn_177 (by decide) rfl ?_
                  dsimp only [List.set]
                  refine dt_iload dX12_letIn_179 rfl ?_
                  refine dt_if_eq (tgt := 189) dX12_letIn_181 (by decide) (by first | assumption | exact hwf _ _ | exact dt_b32 _ | omega | exact ⟨by omega, by omega⟩ | decide | exact ⟨by simp (disch := omega) only [dt_up_s, dt_up_k, dt_up_n]; omega, by simp (disch := omega) only [dt_up_s, dt_up_k, dt_up_n]; omega⟩) (fun c9 => ?_) (fun c9 => ?_)
                  · skip
                    refine dt_iloadn dX12_letIn_189 rfl rfl ?_
                    refine dt_istoren dX12_letIn_190 rfl (by decide) rfl ?_
                    dsimp only [List.set]
                    refine dt_iload dX12_letIn_191 rfl ?_
                    refine dt_if_eq (tgt := 201) dX12_letIn_193 (by decide) (by first | assumption | exact hwf _ _ | exact dt_b32 _ | omega | exact ⟨by omega, by omega⟩ | decide | exact ⟨by simp (disch := omega) only [dt_up_s, dt_up_k, dt_up_n]; omega, by simp (disch := omega) only [dt_up_s, dt_up_k, dt_up_n]; omega⟩) (fun c10 => ?_) (fun c10 => ?_)
                    · skip
                      refine dt_iloadn dX12_letIn_201 rfl rfl ?_
                      refine dt_istoren dX12_letIn_202 rfl (by decide) rfl ?_
                      dsimp only [List.set]
                      refine dt_iinc dX12_letIn_203 rfl (by decide) rfl ?_
                      dsimp only [List.set]
                      refine dt_goto (tgt := 38) dX12_letIn_206 (by decide) ?_
                      have hL := xLet_n (m := m) htg hk hg
                      have hval3 : xMs (sN A) m t = xMs (sN A) m (t + 1) := by unfold xMs; rw [hL]
                      exact dt_lb (ih (t + 1) σd (by omega) (by omega) hfd hXd) ⟨rfl, rfl, (dt_ie (by rw [hL])), (dt_ie hval3), rfl, trivial⟩
                    · skip
                      first | exact absurd c10 (by omega) | exact absurd c10 (by decide) | exact absurd rfl c10
                  · skip
                    first | exact absurd c9 (by omega) | exact absurd c9 (by decide) | exact absurd rfl c9
                · skip
                  have hg : (xLet (sN A) m t).2 < (xSure tg m : Int) - (xSure tg 0 : Int) := by
                    have z : ¬ (xSure tg m : Int) - (xSure tg 0 : Int) ≤ xMs (sN A) m t := (by assumption)
                    unfold xMs at z
                    rw [if_neg hb1] at z
                    omega
                  refine dt_iconst dX12_letIn_172 ?_
                  refine dt_goto (tgt := 177) dX12_letIn_173 (by decide) ?_
                  refine dt_istore dX12_letIn_177 (by decide) rfl ?_
                  dsimp only [List.set]
                  refine dt_iload dX12_letIn_179 rfl ?_
                  refine dt_if_eq (tgt := 189) dX12_letIn_181 (by decide) (by first | assumption | exact hwf _ _ | exact dt_b32 _ | omega | exact ⟨by omega, by omega⟩ | decide | exact ⟨by simp (disch := omega) only [dt_up_s, dt_up_k, dt_up_n]; omega, by simp (disch := omega) only [dt_up_s, dt_up_k, dt_up_n]; omega⟩) (fun c11 => ?_) (fun c11 => ?_)
                  · skip
                    first | exact absurd c11 (by omega) | exact absurd c11 (by decide) | exact absurd rfl c11
                  · skip
                    refine dt_iload dX12_letIn_184 rfl ?_
                    refine dt_goto (tgt := 190) dX12_letIn_186 (by decide) ?_
                    refine dt_istoren dX12_letIn_190 rfl (by decide) rfl ?_
                    dsimp only [List.set]
                    refine dt_iload dX12_letIn_191 rfl ?_
                    refine dt_if_eq (tgt := 201) dX12_letIn_193 (by decide) (by first | assumption | exact hwf _ _ | exact dt_b32 _ | omega | exact ⟨by omega, by omega⟩ | decide | exact ⟨by simp (disch := omega) only [dt_up_s, dt_up_k, dt_up_n]; omega, by simp (disch := omega) only [dt_up_s, dt_up_k, dt_up_n]; omega⟩) (fun c12 => ?_) (fun c12 => ?_)
                    · skip
                      first | exact absurd c12 (by omega) | exact absurd c12 (by decide) | exact absurd rfl c12
                    · skip
                      refine dt_iload dX12_letIn_196 rfl ?_
                      refine dt_goto (tgt := 202) dX12_letIn_198 (by decide) ?_
                      refine dt_istoren dX12_letIn_202 rfl (by decide) rfl ?_
                      dsimp only [List.set]
                      refine dt_iinc dX12_letIn_203 rfl (by decide) rfl ?_
                      dsimp only [List.set]
                      refine dt_goto (tgt := 38) dX12_letIn_206 (by decide) ?_
                      have hL := xLet_y (m := m) htg hk hg
                      have hval3 : (xSure tg m : Int) - (xSure tg 0 : Int) = xMs (sN A) m (t + 1) := by unfold xMs; rw [hL]; exact (if_neg (show ¬ (t : Int) = -1000000 by omega)).symm
                      exact dt_lb (ih (t + 1) σd (by omega) (by omega) hfd hXd) ⟨rfl, rfl, (dt_ie (by rw [hL])), (dt_ie hval3), rfl, trivial⟩
      exact dt_lb (lp38 9 0 σa (by omega) (by omega) (fun b _ => rfl) hX) ⟨rfl, rfl, (dt_ie rfl), (dt_ie (show (0 : Int) = xMs (sN A) m 0 from by unfold xMs; exact (if_pos (show (xLet (sN A) m 0).1 = -1000000 from rfl)).symm)), rfl, trivial⟩
    · skip
      try simp only [dt_b0, dt_b1, Decidable.not_not, Classical.not_not] at c2
      refine dt_ldc dX12_letIn_27 pk_X12_73 ?_
      refine dt_iret dX12_letIn_29 rfl (by decide) (by decide) ?_
      have e : oLetIn A m = (-1000001, A) := by
        unfold oLetIn
        rw [if_neg hn, if_pos (by omega)]
      rw [e]
      exact ⟨rfl, rfl, hA, fa⟩
  · skip
    rw [e7] at c1
    have hn : (sN A).1 = [] := by simpa [dt_b0] using c1
    refine dt_ldc dX12_letIn_12 pk_X12_204 ?_
    refine dt_iret dX12_letIn_14 rfl (by decide) (by decide) ?_
    have e : oLetIn A m = (-1000002, A) := by
      unfold oLetIn
      rw [if_pos hn]
    rw [e]
    exact ⟨rfl, rfl, hA, fa⟩
