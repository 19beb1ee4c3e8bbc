
/-! sets of sets of parts, as they are marked -/
def mP (σ : dt_Mem) (a n : Nat) (P : Nat → Prop) : Prop := ∀ k, k < n → σ a k = dt_b (P k)
theorem mP.kept {σ σ' : dt_Mem} {a n : Nat} {P : Nat → Prop} (h : mP σ a n P) (e : σ' a = σ a) : mP σ' a n P := fun k hk => by rw [e]; exact h k hk
theorem mP.ext {σ : dt_Mem} {a n : Nat} {P Q : Nat → Prop} (h : mP σ a n P) (e : ∀ k, k < n → (P k ↔ Q k)) : mP σ a n Q := fun k hk => by rw [h k hk]; exact dt_bc (e k hk)
theorem mP.put {σ : dt_Mem} {a n : Nat} {P : Nat → Prop} {v : Int} (h : mP σ a n P) (hv : v = dt_b (P n)) : mP (dt_up σ a n v) a (n + 1) P := fun k hk => by
  by_cases e : k = n
  · subst e; rw [dt_up_s]; exact hv
  · rw [dt_up_k e]; exact h k (by omega)
theorem mP.mark {σ : dt_Mem} {a n j : Nat} {P : Nat → Prop} (h : mP σ a n P) : mP (dt_up σ a j 1) a n (fun k => P k ∨ k = j) := fun k hk => by
  by_cases e : k = j
  · subst e; rw [dt_up_s, dt_bT (Or.inr rfl)]
  · rw [dt_up_k e, h k hk]; exact dt_bc ⟨Or.inl, fun g => g.elim id (fun q => absurd q e)⟩
theorem mP.z (σ : dt_Mem) (a : Nat) (P : Nat → Prop) : mP σ a 0 P := fun k hk => absurd hk (Nat.not_lt_zero k)
theorem mP.b {σ : dt_Mem} {a n : Nat} {P : Nat → Prop} (h : mP σ a n P) : ∀ i, i < n → σ a i = 0 ∨ σ a i = 1 := fun i hi => by rw [h i hi]; exact dt_b01 _
def xZ : Nat → Prop := fun k => k = 0
/-- one word more, of these readings -/
def xSay (P : Nat → Prop) (rs : List Nat) (k : Nat) : Prop := ∃ s r, s < 256 ∧ P s ∧ r ∈ rs ∧ s ||| r = k
theorem xSay_s {P : Nat → Prop} {rs : List Nat} {q r k : Nat} (h : rs[q]? = some r) : xSay P (rs.take (q + 1)) k ↔ xSay P (rs.take q) k ∨ ∃ s, s < 256 ∧ P s ∧ s ||| r = k := by
  unfold xSay
  rw [List.take_add_one, h]
  constructor
  · rintro ⟨s, r', h1, h2, h3, h4⟩
    rcases List.mem_append.mp h3 with g | g
    · exact Or.inl ⟨s, r', h1, h2, g, h4⟩
    · obtain rfl := List.mem_singleton.mp g
      exact Or.inr ⟨s, h1, h2, h4⟩
  · rintro (⟨s, r', h1, h2, h3, h4⟩ | ⟨s, h1, h2, h4⟩)
    · exact ⟨s, r', h1, h2, List.mem_append_left _ h3, h4⟩
    · exact ⟨s, r, h1, h2, List.mem_append_right _ List.mem_cons_self, h4⟩
theorem xSay_lt {P : Nat → Prop} {rs : List Nat} (hr : ∀ r ∈ rs, r < 256) {k : Nat} (h : xSay P rs k) : k < 256 := by
  obtain ⟨s, r, h1, -, h3, rfl⟩ := h
  exact Nat.or_lt_two_pow (n := 8) h1 (hr r h3)
noncomputable def xCnt (P : Nat → Prop) : Nat → Nat
  | 0 => 0
  | n + 1 => xCnt P n + (dt_b (P n)).toNat
theorem xCnt_y {P : Nat → Prop} {n : Nat} (h : P n) : xCnt P (n + 1) = xCnt P n + 1 := by
  show xCnt P n + (dt_b (P n)).toNat = xCnt P n + 1
  rw [dt_bT h]
  rfl
theorem xCnt_n {P : Nat → Prop} {n : Nat} (h : ¬ P n) : xCnt P (n + 1) = xCnt P n := by
  show xCnt P n + (dt_b (P n)).toNat = xCnt P n
  rw [dt_bF h]
  rfl
theorem xCnt_le (P : Nat → Prop) : ∀ n, xCnt P n ≤ n
  | 0 => Nat.le_refl 0
  | n + 1 => by
    have h := xCnt_le P n
    by_cases g : P n
    · rw [xCnt_y g]; omega
    · rw [xCnt_n g]; omega
theorem xCnt_mono (P : Nat → Prop) {a : Nat} : ∀ d, xCnt P a ≤ xCnt P (a + d)
  | 0 => Nat.le_refl _
  | d + 1 => by
    have h := xCnt_mono P (a := a) d
    by_cases g : P (a + d)
    · rw [← Nat.add_assoc, xCnt_y g]; omega
    · rw [← Nat.add_assoc, xCnt_n g]; exact h
theorem xCnt_c {P Q : Nat → Prop} : ∀ n, (∀ k, k < n → (P k ↔ Q k)) → xCnt P n = xCnt Q n
  | 0, _ => rfl
  | n + 1, h => by
    show xCnt P n + (dt_b (P n)).toNat = xCnt Q n + (dt_b (Q n)).toNat
    rw [xCnt_c n (fun k hk => h k (by omega)), dt_bc (h n (by omega))]
/-- the k-th of a set; none -/
noncomputable def oNth (P : Nat → Prop) (k : Int) : Int := by
  classical
  exact if h : ∃ j, j < 256 ∧ P j ∧ ((xCnt P j : Nat) : Int) = k then ((Classical.choose h : Nat) : Int) else -1000000
theorem oNth_y {P : Nat → Prop} {k : Int} {j : Nat} (h1 : j < 256) (h2 : P j) (h3 : ((xCnt P j : Nat) : Int) = k) : oNth P k = j := by
  have h : ∃ j, j < 256 ∧ P j ∧ ((xCnt P j : Nat) : Int) = k := ⟨j, h1, h2, h3⟩
  have e : oNth P k = ((Classical.choose h : Nat) : Int) := dif_pos h
  rw [e]
  obtain ⟨g1, g2, g3⟩ := Classical.choose_spec h
  have key : ∀ a b : Nat, P a → xCnt P a = xCnt P b → ¬ a < b := by
    intro a b ha he hl
    have m := xCnt_mono P (a := a + 1) (b - (a + 1))
    rw [xCnt_y ha, show a + 1 + (b - (a + 1)) = b by omega] at m
    omega
  have a1 := key _ _ g2 (show xCnt P (Classical.choose h) = xCnt P j by omega)
  have a2 := key _ _ h2 (show xCnt P j = xCnt P (Classical.choose h) by omega)
  omega
theorem oNth_n {P : Nat → Prop} {k : Int} (h : ∀ j, j < 256 → P j → ((xCnt P j : Nat) : Int) ≠ k) : oNth P k = -1000000 := dif_neg (fun ⟨j, h1, h2, h3⟩ => h j h1 h2 h3)
noncomputable def oM (P : Nat → Prop) (k : Int) : Int := if k < 0 then ((xCnt P 256 : Nat) : Int) else oNth P k
theorem oNth_c {P Q : Nat → Prop} (h : ∀ k, k < 256 → (P k ↔ Q k)) (k : Int) : oNth P k = oNth Q k := by
  have e : ∀ j, j < 256 → xCnt P j = xCnt Q j := fun j hj => xCnt_c j (fun k hk => h k (by omega))
  by_cases g : ∃ j, j < 256 ∧ P j ∧ ((xCnt P j : Nat) : Int) = k
  · obtain ⟨j, h1, h2, h3⟩ := g
    rw [oNth_y h1 h2 h3, oNth_y h1 ((h j h1).mp h2) (by rw [← e j h1]; exact h3)]
  · rw [oNth_n (fun j h1 h2 h3 => g ⟨j, h1, h2, h3⟩), oNth_n (fun j h1 h2 h3 => g ⟨j, h1, (h j h1).mpr h2, by rw [e j h1]; exact h3⟩)]
theorem oM_c {P Q : Nat → Prop} (h : ∀ k, k < 256 → (P k ↔ Q k)) (k : Int) : oM P k = oM Q k := by
  unfold oM
  rw [xCnt_c 256 h, oNth_c h]
/-- what words said one after another may mean -/
def xSd1 (X : dX) (t : Int) (a : Option (Nat → Prop)) (w : Int) : Option (Nat → Prop) := match a with
  | none => none
  | some P => match xAt X t w with
    | none => none
    | some wd => some (xSay P wd.2)
def xSd (X : dX) (t : Int) (l : List Int) : Option (Nat → Prop) := l.foldl (xSd1 X t) (some xZ)
theorem xSd1_y {X : dX} {t w : Int} {P : Nat → Prop} {wd : Nat × List Nat} (h : xAt X t w = some wd) : xSd1 X t (some P) w = some (xSay P wd.2) := by
  unfold xSd1
  rw [h]
theorem xSd1_n {X : dX} {t w : Int} {P : Nat → Prop} (h : xAt X t w = none) : xSd1 X t (some P) w = none := by
  unfold xSd1
  rw [h]
theorem xSd_nn {X : dX} {t : Int} : ∀ l : List Int, l.foldl (xSd1 X t) none = none
  | [] => rfl
  | _ :: l => xSd_nn l
theorem xSd_s {X : dX} {t w : Int} {l : List Int} {j : Nat} (h : l[j]? = some w) : xSd X t (l.take (j + 1)) = xSd1 X t (xSd X t (l.take j)) w := fl_s h _ _
theorem xSd_e {X : dX} {t : Int} {l : List Int} {j : Nat} (h : l.length ≤ j) : xSd X t (l.take j) = xSd X t l := fl_e h _ _
theorem xSd_no {X : dX} {t w : Int} {l : List Int} {j : Nat} (h : l[j]? = some w) (hw : xAt X t w = none) : xSd X t l = none := by
  have e : l = l.take (j + 1) ++ l.drop (j + 1) := (List.take_append_drop _ _).symm
  have g : xSd X t (l.take (j + 1)) = none := by
    rw [xSd_s h]
    cases xSd X t (l.take j) with
    | none => rfl
    | some P => exact xSd1_n hw
  unfold xSd at g ⊢
  rw [e, List.foldl_append, g]
  exact xSd_nn _
theorem s_X8_begin {ex : List dt_Shp} {σ : dt_Mem}  : dt_Sp mX8_begin 0 0 0 [dt_R 31] (dt_SH ++ ex) σ (fun v sh2 σ2 => v = none ∧ sh2 = dt_SH ++ ex ∧ (∀ b, b ≠ 32 → σ2 b = σ b) ∧ mP σ2 32 256 xZ) := by
  refine dt_Sp_of (by decide) (Nat.le_of_ble_eq_true rfl) ?_
  refine dt_wfV fun hwf => ?_
  show dt_V _ _ _ 0 0 0 [some (dt_R 31), none] [] _ _
  refine dt_iconst dX8_begin_0 ?_
  refine dt_istoren dX8_begin_1 rfl (by decide) rfl ?_
  dsimp only [List.set]
  have lp2 : ∀ (fu : Nat) (i : Nat) (σ1 : dt_Mem), 256 - (i : Int) < (fu : Int) → (i ≤ 256) → (∀ b, b ≠ 32 → σ1 b = σ b) → (mP σ1 32 i xZ) →  dt_V mX8_begin (dt_rm 0 0 0) (dt_MC (fun v sh2 σ2 => v = none ∧ sh2 = dt_SH ++ ex ∧ (∀ b, b ≠ 32 → σ2 b = σ b) ∧ mP σ2 32 256 xZ) 0 0) 0 0 2 [some (dt_R 31), some (dt_I (i : Int))] [] (dt_SH ++ ex) σ1 := by
    intro fu
    induction fu with
    | zero =>
      intro i σ1 hm ji jf jm
      exfalso
      omega
    | succ fu ih =>
      intro i σ1 hm ji jf jm
      refine dt_wfV fun hwf => ?_
      refine dt_iloadn dX8_begin_2 rfl rfl ?_
      refine dt_sipush dX8_begin_3 (by decide) ?_
      refine dt_cm_ge (tgt := 30) dX8_begin_6 (by decide) (by first | assumption | exact hwf _ _ | exact dt_b32 _ | omega | exact ⟨by omega, by omega⟩ | decide | exact ⟨by simp (disch := omega) only [dt_up_s, dt_up_k, dt_up_n]; omega, by simp (disch := omega) only [dt_up_s, dt_up_k, dt_up_n]; omega⟩) (by first | assumption | exact hwf _ _ | exact dt_b32 _ | omega | exact ⟨by omega, by omega⟩ | decide | exact ⟨by simp (disch := omega) only [dt_up_s, dt_up_k, dt_up_n]; omega, by simp (disch := omega) only [dt_up_s, dt_up_k, dt_up_n]; omega⟩) (fun c1 => ?_) (fun c1 => ?_)
      · skip
        refine dt_vret dX8_begin_30 rfl (by decide) (by decide) ?_
        obtain rfl : i = 256 := by omega
        exact ⟨rfl, rfl, jf, jm⟩
      · skip
        refine dt_aloadn dX8_begin_9 rfl rfl ?_
        refine dt_getR dX8_begin_10 pg_X8_15_8 rfl rfl ?_
        refine dt_iloadn dX8_begin_13 rfl rfl ?_
        refine dt_iloadn dX8_begin_14 rfl rfl ?_
        refine dt_if_ne (tgt := 22) dX8_begin_15 (by decide) (by first | assumption | exact hwf _ _ | exact dt_b32 _ | omega | exact ⟨by omega, by omega⟩ | decide | exact ⟨by simp (disch := omega) only [dt_up_s, dt_up_k, dt_up_n]; omega, by simp (disch := omega) only [dt_up_s, dt_up_k, dt_up_n]; omega⟩) (fun c2 => ?_) (fun c2 => ?_)
        · skip
          have hv : (0 : Int) = dt_b (xZ i) := (dt_bF (fun q => by have q : i = 0 := q; omega)).symm
          refine dt_iconst dX8_begin_22 ?_
          refine dt_zast dX8_begin_23 rfl (by first | omega | (simp (disch := omega) only [dt_up_s, dt_up_k, dt_up_n]; omega)) (by first | omega | (simp (disch := omega) only [dt_up_s, dt_up_k, dt_up_n]; omega)) (by decide) (by first | exact Or.inl rfl | exact Or.inr rfl | assumption | omega) ?_
          refine dt_iinc dX8_begin_24 rfl (by decide) rfl ?_
          dsimp only [List.set]
          refine dt_goto (tgt := 2) dX8_begin_27 (by decide) ?_
          exact dt_lb (ih (i + 1) _ (by omega) (by omega) (fun b hb => (dt_up_o hb).trans (jf b hb)) (jm.put hv)) ⟨rfl, rfl, trivial⟩
        · skip
          have hv : (1 : Int) = dt_b (xZ i) := (dt_bT (show i = 0 by omega)).symm
          refine dt_iconst dX8_begin_18 ?_
          refine dt_goto (tgt := 23) dX8_begin_19 (by decide) ?_
          refine dt_zast dX8_begin_23 rfl (by first | omega | (simp (disch := omega) only [dt_up_s, dt_up_k, dt_up_n]; omega)) (by first | omega | (simp (disch := omega) only [dt_up_s, dt_up_k, dt_up_n]; omega)) (by decide) (by first | exact Or.inl rfl | exact Or.inr rfl | assumption | omega) ?_
          refine dt_iinc dX8_begin_24 rfl (by decide) rfl ?_
          dsimp only [List.set]
          refine dt_goto (tgt := 2) dX8_begin_27 (by decide) ?_
          exact dt_lb (ih (i + 1) _ (by omega) (by omega) (fun b hb => (dt_up_o hb).trans (jf b hb)) (jm.put hv)) ⟨rfl, rfl, trivial⟩
  exact dt_lb (lp2 300 0 σ (by omega) (by omega) (fun _ _ => rfl) (mP.z _ _ _)) ⟨rfl, rfl, trivial⟩
theorem s_X12_startMeaning {ex : List dt_Shp} {σ : dt_Mem}  : dt_Sp mX12_startMeaning 0 0 0 [dt_R 40] (dt_SH ++ ex) σ (fun v sh2 σ2 => v = none ∧ sh2 = dt_SH ++ ex ∧ (∀ b, b ≠ 47 → σ2 b = σ b) ∧ mP σ2 47 256 xZ) := by
  refine dt_Sp_of (by decide) (Nat.le_of_ble_eq_true rfl) ?_
  refine dt_wfV fun hwf => ?_
  show dt_V _ _ _ 0 0 0 [some (dt_R 40), none] [] _ _
  refine dt_iconst dX12_startMeaning_0 ?_
  refine dt_istoren dX12_startMeaning_1 rfl (by decide) rfl ?_
  dsimp only [List.set]
  have lp2 : ∀ (fu : Nat) (i : Nat) (σ1 : dt_Mem), 256 - (i : Int) < (fu : Int) → (i ≤ 256) → (∀ b, b ≠ 47 → σ1 b = σ b) → (mP σ1 47 i xZ) →  dt_V mX12_startMeaning (dt_rm 0 0 0) (dt_MC (fun v sh2 σ2 => v = none ∧ sh2 = dt_SH ++ ex ∧ (∀ b, b ≠ 47 → σ2 b = σ b) ∧ mP σ2 47 256 xZ) 0 0) 0 0 2 [some (dt_R 40), some (dt_I (i : Int))] [] (dt_SH ++ ex) σ1 := by
    intro fu
    induction fu with
    | zero =>
      intro i σ1 hm ji jf jm
      exfalso
      omega
    | succ fu ih =>
      intro i σ1 hm ji jf jm
      refine dt_wfV fun hwf => ?_
      refine dt_iloadn dX12_startMeaning_2 rfl rfl ?_
      refine dt_sipush dX12_startMeaning_3 (by decide) ?_
      refine dt_cm_ge (tgt := 30) dX12_startMeaning_6 (by decide) (by first | assumption | exact hwf _ _ | exact dt_b32 _ | omega | exact ⟨by omega, by omega⟩ | decide | exact ⟨by simp (disch := omega) only [dt_up_s, dt_up_k, dt_up_n]; omega, by simp (disch := omega) only [dt_up_s, dt_up_k, dt_up_n]; omega⟩) (by first | assumption | exact hwf _ _ | exact dt_b32 _ | omega | exact ⟨by omega, by omega⟩ | decide | exact ⟨by simp (disch := omega) only [dt_up_s, dt_up_k, dt_up_n]; omega, by simp (disch := omega) only [dt_up_s, dt_up_k, dt_up_n]; omega⟩) (fun c1 => ?_) (fun c1 => ?_)
      · skip
        refine dt_vret dX12_startMeaning_30 rfl (by decide) (by decide) ?_
        obtain rfl : i = 256 := by omega
        exact ⟨rfl, rfl, jf, jm⟩
      · skip
        refine dt_aloadn dX12_startMeaning_9 rfl rfl ?_
        refine dt_getR dX12_startMeaning_10 pg_X12_28_12 rfl rfl ?_
        refine dt_iloadn dX12_startMeaning_13 rfl rfl ?_
        refine dt_iloadn dX12_startMeaning_14 rfl rfl ?_
        refine dt_if_ne (tgt := 22) dX12_startMeaning_15 (by decide) (by first | assumption | exact hwf _ _ | exact dt_b32 _ | omega | exact ⟨by omega, by omega⟩ | decide | exact ⟨by simp (disch := omega) only [dt_up_s, dt_up_k, dt_up_n]; omega, by simp (disch := omega) only [dt_up_s, dt_up_k, dt_up_n]; omega⟩) (fun c2 => ?_) (fun c2 => ?_)
        · skip
          have hv : (0 : Int) = dt_b (xZ i) := (dt_bF (fun q => by have q : i = 0 := q; omega)).symm
          refine dt_iconst dX12_startMeaning_22 ?_
          refine dt_zast dX12_startMeaning_23 rfl (by first | omega | (simp (disch := omega) only [dt_up_s, dt_up_k, dt_up_n]; omega)) (by first | omega | (simp (disch := omega) only [dt_up_s, dt_up_k, dt_up_n]; omega)) (by decide) (by first | exact Or.inl rfl | exact Or.inr rfl | assumption | omega) ?_
          refine dt_iinc dX12_startMeaning_24 rfl (by decide) rfl ?_
          dsimp only [List.set]
          refine dt_goto (tgt := 2) dX12_startMeaning_27 (by decide) ?_
          exact dt_lb (ih (i + 1) _ (by omega) (by omega) (fun b hb => (dt_up_o hb).trans (jf b hb)) (jm.put hv)) ⟨rfl, rfl, trivial⟩
        · skip
          have hv : (1 : Int) = dt_b (xZ i) := (dt_bT (show i = 0 by omega)).symm
          refine dt_iconst dX12_startMeaning_18 ?_
          refine dt_goto (tgt := 23) dX12_startMeaning_19 (by decide) ?_
          refine dt_zast dX12_startMeaning_23 rfl (by first | omega | (simp (disch := omega) only [dt_up_s, dt_up_k, dt_up_n]; omega)) (by first | omega | (simp (disch := omega) only [dt_up_s, dt_up_k, dt_up_n]; omega)) (by decide) (by first | exact Or.inl rfl | exact Or.inr rfl | assumption | omega) ?_
          refine dt_iinc dX12_startMeaning_24 rfl (by decide) rfl ?_
          dsimp only [List.set]
          refine dt_goto (tgt := 2) dX12_startMeaning_27 (by decide) ?_
          exact dt_lb (ih (i + 1) _ (by omega) (by omega) (fun b hb => (dt_up_o hb).trans (jf b hb)) (jm.put hv)) ⟨rfl, rfl, trivial⟩
  exact dt_lb (lp2 300 0 σ (by omega) (by omega) (fun _ _ => rfl) (mP.z _ _ _)) ⟨rfl, rfl, trivial⟩
theorem s_X8_say {ex : List dt_Shp} {σ : dt_Mem} {X : dX} {P : Nat → Prop} {t w : Nat} {wd : Nat × List Nat} (hX : cPort σ 7 X) (hw : xW X t w wd) (hr : ∀ r ∈ wd.2, r < 256) (hM : mP σ 32 256 P) : dt_Sp mX8_say 3 0 0 [dt_R 31, dt_I (t : Int), dt_I (w : Int)] (dt_SH ++ ex) σ (fun v sh2 σ2 => v = none ∧ sh2 = dt_SH ++ ex ∧ (∀ b, b ≠ 32 → b ≠ 33 → σ2 b = σ b) ∧ mP σ2 32 256 (xSay P wd.2)) := by
  refine dt_Sp_of (by decide) (Nat.le_of_ble_eq_true rfl) ?_
  refine dt_wfV fun hwf => ?_
  obtain ⟨w1, w2, w3, w4, w5, w6, w7, w8⟩ := hX.word hw
  have hcw := hX.hasW hw
  have e13 : ((t : Int) * 8 + (w : Int)).toNat = t * 8 + w := by omega
  show dt_V _ _ _ 0 0 0 [some (dt_R 31), some (dt_I (t : Int)), some (dt_I (w : Int)), none, none, none] [] _ _
  refine dt_aloadn dX8_say_0 rfl rfl ?_
  refine dt_getR dX8_say_1 pg_X8_15_8 rfl rfl ?_
  refine dt_iconst dX8_say_4 ?_
  refine dt_aloadn dX8_say_5 rfl rfl ?_
  refine dt_getR dX8_say_6 pg_X8_19_8 rfl rfl ?_
  refine dt_iconst dX8_say_9 ?_
  refine dt_sipush dX8_say_10 (by decide) ?_
  refine dt_copy dX8_say_13 po_X8_38 psy_n psy_s psy_i (by decide) (by decide) rfl rfl (Or.inr ⟨rfl, hM.b⟩) (by decide) (by decide) (by first | omega | (simp (disch := omega) only [dt_up_s, dt_up_k, dt_up_n]; omega)) (by first | omega | (simp (disch := omega) only [dt_up_s, dt_up_k, dt_up_n]; omega)) (by first | omega | (simp (disch := omega) only [dt_up_s, dt_up_k, dt_up_n]; omega)) (by first | omega | (simp (disch := omega) only [dt_up_s, dt_up_k, dt_up_n]; omega)) (by first | omega | (simp (disch := omega) only [dt_up_s, dt_up_k, dt_up_n]; omega)) ?_
  obtain ⟨σa, ea⟩ : ∃ z, z = dt_cp σ 32 33 (Int.toNat 0) (Int.toNat 0) (Int.toNat 256) := ⟨_, rfl⟩
  rw [← ea]
  have hfa : ∀ b, b ≠ 33 → σa b = σ b := fun b hb => by rw [ea]; exact dt_cp_o hb
  have hMa : mP σa 33 256 P := fun k hk => by rw [ea]; exact (dt_cp_s hk).trans (hM k hk)
  clear ea
  refine dt_iconst dX8_say_16 ?_
  refine dt_istoren dX8_say_17 rfl (by decide) rfl ?_
  dsimp only [List.set]
  have lp18 : ∀ (fu : Nat) (i : Nat) (σ1 : dt_Mem), 256 - (i : Int) < (fu : Int) → (i ≤ 256) → (∀ b, b ≠ 32 → σ1 b = σa b) → (mP σ1 32 i (fun _ => False)) →  dt_V mX8_say (dt_rm 3 0 0) (dt_MC (fun v sh2 σ2 => v = none ∧ sh2 = dt_SH ++ ex ∧ (∀ b, b ≠ 32 → b ≠ 33 → σ2 b = σ b) ∧ mP σ2 32 256 (xSay P wd.2)) 0 0) 0 0 18 [some (dt_R 31), some (dt_I (t : Int)), some (dt_I (w : Int)), some (dt_I (i : Int)), none, none] [] (dt_SH ++ ex) σ1 := by
    intro fu
    induction fu with
    | zero =>
      intro i σ1 hm ji jf jm
      exfalso
      omega
    | succ fu ih =>
      intro i σ1 hm ji jf jm
      refine dt_wfV fun hwf => ?_
      refine dt_iloadn dX8_say_18 rfl rfl ?_
      refine dt_sipush dX8_say_19 (by decide) ?_
      refine dt_cm_ge (tgt := 38) dX8_say_22 (by decide) (by first | assumption | exact hwf _ _ | exact dt_b32 _ | omega | exact ⟨by omega, by omega⟩ | decide | exact ⟨by simp (disch := omega) only [dt_up_s, dt_up_k, dt_up_n]; omega, by simp (disch := omega) only [dt_up_s, dt_up_k, dt_up_n]; omega⟩) (by first | assumption | exact hwf _ _ | exact dt_b32 _ | omega | exact ⟨by omega, by omega⟩ | decide | exact ⟨by simp (disch := omega) only [dt_up_s, dt_up_k, dt_up_n]; omega, by simp (disch := omega) only [dt_up_s, dt_up_k, dt_up_n]; omega⟩) (fun c1 => ?_) (fun c1 => ?_)
      · skip
        refine dt_iconst dX8_say_38 ?_
        refine dt_istoren dX8_say_39 rfl (by decide) rfl ?_
        dsimp only [List.set]
        have lp40 : ∀ (fu : Nat) (q : Nat) (σ1 : dt_Mem), (wd.2.length : Int) - q < (fu : Int) → (q ≤ wd.2.length) → (∀ b, b ≠ 32 → b ≠ 33 → σ1 b = σ b) → (mP σ1 33 256 P) → (mP σ1 32 256 (xSay P (wd.2.take q))) →  dt_V mX8_say (dt_rm 3 0 0) (dt_MC (fun v sh2 σ2 => v = none ∧ sh2 = dt_SH ++ ex ∧ (∀ b, b ≠ 32 → b ≠ 33 → σ2 b = σ b) ∧ mP σ2 32 256 (xSay P wd.2)) 0 0) 0 0 40 [some (dt_R 31), some (dt_I (t : Int)), some (dt_I (w : Int)), some (dt_I (q : Int)), none, none] [] (dt_SH ++ ex) σ1 := by
          intro fu
          induction fu with
          | zero =>
            intro q σ1 hm jq jf jb jm
            exfalso
            omega
          | succ fu ih =>
            intro q σ1 hm jq jf jb jm
            refine dt_wfV fun hwf => ?_
            have ih0 := ih
            refine dt_iloadn dX8_say_40 rfl rfl ?_
            refine dt_aloadn dX8_say_41 rfl rfl ?_
            refine dt_getR dX8_say_42 pg_X8_9_8 rfl rfl ?_
            refine dt_iloadn dX8_say_45 rfl rfl ?_
            refine dt_iloadn dX8_say_46 rfl rfl ?_
            refine dt_xV dX8_say_47 pc_X8_44 rfl (s_X6_readingsOf dt_p7 ((hX.kept (fun b _ _ => jf b (by omega) (by omega))).hasW hw)) rfl rfl ⟨by decide, by decide⟩ rfl rfl (Nat.le_of_ble_eq_true rfl) ⟨by decide, by decide⟩ (dt_k3 ?_)
            rw [e13, show σ1 (7 + 3) (t * 8 + w) = wd.2.length by rw [jf (7 + 3) (by decide) (by decide)]; exact w7]
            refine dt_cm_ge (tgt := 113) dX8_say_50 (by decide) (by first | assumption | exact hwf _ _ | exact dt_b32 _ | omega | exact ⟨by omega, by omega⟩ | decide | exact ⟨by simp (disch := omega) only [dt_up_s, dt_up_k, dt_up_n]; omega, by simp (disch := omega) only [dt_up_s, dt_up_k, dt_up_n]; omega⟩) (by first | assumption | exact hwf _ _ | exact dt_b32 _ | omega | exact ⟨by omega, by omega⟩ | decide | exact ⟨by simp (disch := omega) only [dt_up_s, dt_up_k, dt_up_n]; omega, by simp (disch := omega) only [dt_up_s, dt_up_k, dt_up_n]; omega⟩) (fun c2 => ?_) (fun c2 => ?_)
            · skip
              refine dt_vret dX8_say_113 rfl (by decide) (by decide) ?_
              rw [show q = wd.2.length by omega, List.take_length] at jm
              exact ⟨rfl, rfl, jf, jm⟩
            · skip
              obtain ⟨r, hq⟩ := dt_lg (l := wd.2) (i := q) (by omega)
              have hr8 := hr r (List.mem_of_getElem? hq)
              refine dt_aloadn dX8_say_53 rfl rfl ?_
              refine dt_getR dX8_say_54 pg_X8_9_8 rfl rfl ?_
              refine dt_iloadn dX8_say_57 rfl rfl ?_
              refine dt_iloadn dX8_say_58 rfl rfl ?_
              refine dt_iloadn dX8_say_59 rfl rfl ?_
              refine dt_xV dX8_say_60 pc_X8_50 rfl (s_X6_reading dt_p7 ⟨(hX.kept (fun b _ _ => jf b (by omega) (by omega))).hasW hw, by omega, by omega, by rw [e13, show σ1 (7 + 3) (t * 8 + w) = wd.2.length by rw [jf (7 + 3) (by decide) (by decide)]; exact w7]; omega⟩) rfl rfl ⟨by decide, by decide⟩ rfl rfl (Nat.le_of_ble_eq_true rfl) ⟨by decide, by decide⟩ (dt_k3 ?_)
              rw [show (((t : Int) * 8 + (w : Int)) * 3 + (q : Int)).toNat = (t * 8 + w) * 3 + q by omega, show σ1 (7 + 4) ((t * 8 + w) * 3 + q) = r by rw [jf (7 + 4) (by decide) (by decide)]; exact w8 q r hq]
              refine dt_sipush dX8_say_63 (by decide) ?_
              refine dt_iand dX8_say_66 ?_
              rw [dj_and255 hr8]
              refine dt_istore dX8_say_67 (by decide) rfl ?_
              dsimp only [List.set]
              refine dt_iconst dX8_say_69 ?_
              refine dt_istore dX8_say_70 (by decide) rfl ?_
              dsimp only [List.set]
              have lp72 : ∀ (fu : Nat) (i : Nat) (σ2 : dt_Mem), 256 - (i : Int) < (fu : Int) → (i ≤ 256) → (∀ b, b ≠ 32 → b ≠ 33 → σ2 b = σ b) → (mP σ2 33 256 P) → (mP σ2 32 256 (fun k => xSay P (wd.2.take q) k ∨ ∃ s, s < i ∧ P s ∧ s ||| r = k)) →  dt_V mX8_say (dt_rm 3 0 0) (dt_MC (fun v sh2 σ2 => v = none ∧ sh2 = dt_SH ++ ex ∧ (∀ b, b ≠ 32 → b ≠ 33 → σ2 b = σ b) ∧ mP σ2 32 256 (xSay P wd.2)) 0 0) 0 0 72 [some (dt_R 31), some (dt_I (t : Int)), some (dt_I (w : Int)), some (dt_I (q : Int)), some (dt_I (r : Int)), some (dt_I (i : Int))] [] (dt_SH ++ ex) σ2 := by
                intro fu
                induction fu with
                | zero =>
                  intro i σ2 hm ki kf kb km
                  exfalso
                  omega
                | succ fu ih =>
                  intro i σ2 hm ki kf kb km
                  refine dt_wfV fun hwf => ?_
                  refine dt_iload dX8_say_72 rfl ?_
                  refine dt_sipush dX8_say_74 (by decide) ?_
                  refine dt_cm_ge (tgt := 107) dX8_say_77 (by decide) (by first | assumption | exact hwf _ _ | exact dt_b32 _ | omega | exact ⟨by omega, by omega⟩ | decide | exact ⟨by simp (disch := omega) only [dt_up_s, dt_up_k, dt_up_n]; omega, by simp (disch := omega) only [dt_up_s, dt_up_k, dt_up_n]; omega⟩) (by first | assumption | exact hwf _ _ | exact dt_b32 _ | omega | exact ⟨by omega, by omega⟩ | decide | exact ⟨by simp (disch := omega) only [dt_up_s, dt_up_k, dt_up_n]; omega, by simp (disch := omega) only [dt_up_s, dt_up_k, dt_up_n]; omega⟩) (fun c3 => ?_) (fun c3 => ?_)
                  · skip
                    refine dt_iinc dX8_say_107 rfl (by decide) rfl ?_
                    dsimp only [List.set]
                    refine dt_goto (tgt := 40) dX8_say_110 (by decide) ?_
                    have km2 : mP σ2 32 256 (xSay P (wd.2.take (q + 1))) := km.ext (fun k _ => by rw [xSay_s hq, show i = 256 by omega])
                    exact dt_lb (ih0 (q + 1) σ2 (by omega) (by omega) kf kb km2) ⟨rfl, rfl, rfl, rfl, trivial⟩
                  · skip
                    have hi : i < 256 := by omega
                    refine dt_aloadn dX8_say_80 rfl rfl ?_
                    refine dt_getR dX8_say_81 pg_X8_19_8 rfl rfl ?_
                    refine dt_iload dX8_say_84 rfl ?_
                    refine dt_zald dX8_say_86 rfl (by first | omega | (simp (disch := omega) only [dt_up_s, dt_up_k, dt_up_n]; omega)) (by first | omega | (simp (disch := omega) only [dt_up_s, dt_up_k, dt_up_n]; omega)) (by decide) ?_
                    rw [Int.toNat_natCast, kb i hi]
                    refine dt_if_eq (tgt := 101) dX8_say_87 (by decide) (by first | assumption | exact hwf _ _ | exact dt_b32 _ | omega | exact ⟨by omega, by omega⟩ | decide | exact ⟨by simp (disch := omega) only [dt_up_s, dt_up_k, dt_up_n]; omega, by simp (disch := omega) only [dt_up_s, dt_up_k, dt_up_n]; omega⟩) (fun c4 => ?_) (fun c4 => ?_)
                    · skip
                      try simp only [dt_b0, dt_b1, Decidable.not_not, Classical.not_not] at c4
                      have hnp : ¬ P i := by assumption
                      refine dt_iinc dX8_say_101 rfl (by decide) rfl ?_
                      dsimp only [List.set]
                      refine dt_goto (tgt := 72) dX8_say_104 (by decide) ?_
                      have km2 := km.ext (Q := fun k => xSay P (wd.2.take q) k ∨ ∃ s, s < i + 1 ∧ P s ∧ s ||| r = k) (fun k _ => ⟨fun z => by
                        rcases z with z | ⟨s, h1, h2, h3⟩
                        · exact Or.inl z
                        · exact Or.inr ⟨s, by omega, h2, h3⟩, fun z => by
                        rcases z with z | ⟨s, h1, h2, h3⟩
                        · exact Or.inl z
                        · by_cases e : s = i
                          · subst e; exact absurd h2 hnp
                          · exact Or.inr ⟨s, by omega, h2, h3⟩⟩)
                      exact dt_lb (ih (i + 1) σ2 (by omega) (by omega) kf kb km2) ⟨rfl, rfl, rfl, rfl, rfl, rfl, trivial⟩
                    · skip
                      try simp only [dt_b0, dt_b1, Decidable.not_not, Classical.not_not] at c4
                      have hyp : P i := by assumption
                      refine dt_aloadn dX8_say_90 rfl rfl ?_
                      refine dt_getR dX8_say_91 pg_X8_15_8 rfl rfl ?_
                      refine dt_iload dX8_say_94 rfl ?_
                      refine dt_iload dX8_say_96 rfl ?_
                      refine dt_ior dX8_say_98 ?_
                      rw [dj_or_nn (by omega) (by omega)]
                      have hor : i ||| r < 256 := Nat.or_lt_two_pow (n := 8) hi hr8
                      refine dt_iconst dX8_say_99 ?_
                      refine dt_zast dX8_say_100 rfl (by first | omega | (simp (disch := omega) only [dt_up_s, dt_up_k, dt_up_n]; omega)) (by first | omega | (simp (disch := omega) only [dt_up_s, dt_up_k, dt_up_n]; omega)) (by decide) (by first | exact Or.inl rfl | exact Or.inr rfl | assumption | omega) ?_
                      rw [Int.toNat_natCast]
                      refine dt_iinc dX8_say_101 rfl (by decide) rfl ?_
                      dsimp only [List.set]
                      refine dt_goto (tgt := 72) dX8_say_104 (by decide) ?_
                      have km2 := (km.mark (j := i ||| r)).ext (Q := fun k => xSay P (wd.2.take q) k ∨ ∃ s, s < i + 1 ∧ P s ∧ s ||| r = k) (fun k _ => ⟨fun z => by
                        rcases z with (z | ⟨s, h1, h2, h3⟩) | z
                        · exact Or.inl z
                        · exact Or.inr ⟨s, by omega, h2, h3⟩
                        · exact Or.inr ⟨i, by omega, hyp, z.symm⟩, fun z => by
                        rcases z with z | ⟨s, h1, h2, h3⟩
                        · exact Or.inl (Or.inl z)
                        · by_cases e : s = i
                          · subst e; exact Or.inr h3.symm
                          · exact Or.inl (Or.inr ⟨s, by omega, h2, h3⟩)⟩)
                      exact dt_lb (ih (i + 1) _ (by omega) (by omega) (fun b h1 h2 => (dt_up_o h1).trans (kf b h1 h2)) (kb.kept (dt_up_o (by decide))) km2) ⟨rfl, rfl, rfl, rfl, rfl, rfl, trivial⟩
              exact dt_lb (lp72 300 0 σ1 (by omega) (by omega) jf jb (jm.ext (fun k _ => ⟨Or.inl, fun z => z.elim id (fun ⟨_, z, _⟩ => absurd z (Nat.not_lt_zero _))⟩))) ⟨rfl, rfl, rfl, rfl, rfl, rfl, trivial⟩
        obtain rfl : i = 256 := by omega
        exact dt_lb (lp40 5 0 σ1 (by omega) (by omega) (fun b h1 h2 => (jf b h1).trans (hfa b h2)) (hMa.kept (jf 33 (by decide))) (jm.ext (fun k _ => ⟨fun z => z.elim, fun ⟨_, _, _, _, z, _⟩ => by simp at z⟩))) ⟨rfl, rfl, rfl, rfl, trivial⟩
      · skip
        refine dt_aloadn dX8_say_25 rfl rfl ?_
        refine dt_getR dX8_say_26 pg_X8_15_8 rfl rfl ?_
        refine dt_iloadn dX8_say_29 rfl rfl ?_
        refine dt_iconst dX8_say_30 ?_
        refine dt_zast dX8_say_31 rfl (by first | omega | (simp (disch := omega) only [dt_up_s, dt_up_k, dt_up_n]; omega)) (by first | omega | (simp (disch := omega) only [dt_up_s, dt_up_k, dt_up_n]; omega)) (by decide) (by first | exact Or.inl rfl | exact Or.inr rfl | assumption | omega) ?_
        refine dt_iinc dX8_say_32 rfl (by decide) rfl ?_
        dsimp only [List.set]
        refine dt_goto (tgt := 18) dX8_say_35 (by decide) ?_
        exact dt_lb (ih (i + 1) _ (by omega) (by omega) (fun b hb => (dt_up_o hb).trans (jf b hb)) (jm.put (dt_bF id).symm)) ⟨rfl, rfl, rfl, rfl, trivial⟩
  exact dt_lb (lp18 300 0 σa (by omega) (by omega) (fun _ _ => rfl) (mP.z _ _ _)) ⟨rfl, rfl, rfl, rfl, trivial⟩
theorem s_X8_manyOf {ex : List dt_Shp} {σ : dt_Mem} {P : Nat → Prop} {a : Nat} (hs : (dt_SH ++ ex)[a]? = some (.inr (1, 256))) (hM : mP σ a 256 P) : dt_Sp mX8_manyOf 0 0 0 [dt_R a] (dt_SH ++ ex) σ (fun v sh2 σ2 => v = some (dt_I ((xCnt P 256 : Nat) : Int)) ∧ sh2 = dt_SH ++ ex ∧ σ2 = σ) := by
  refine dt_Sp_of (by decide) (Nat.le_of_ble_eq_true rfl) ?_
  refine dt_wfV fun hwf => ?_
  show dt_V _ _ _ 0 0 0 [some (dt_R a), none, none] [] _ _
  refine dt_iconst dX8_manyOf_0 ?_
  refine dt_istoren dX8_manyOf_1 rfl (by decide) rfl ?_
  dsimp only [List.set]
  refine dt_iconst dX8_manyOf_2 ?_
  refine dt_istoren dX8_manyOf_3 rfl (by decide) rfl ?_
  dsimp only [List.set]
  have lp4 : ∀ (fu : Nat) (i : Nat), 256 - (i : Int) < (fu : Int) → (i ≤ 256) →  dt_V mX8_manyOf (dt_rm 0 0 0) (dt_MC (fun v sh2 σ2 => v = some (dt_I ((xCnt P 256 : Nat) : Int)) ∧ sh2 = dt_SH ++ ex ∧ σ2 = σ) 0 0) 0 0 4 [some (dt_R a), some (dt_I ((xCnt P i : Nat) : Int)), some (dt_I (i : Int))] [] (dt_SH ++ ex) σ := by
    intro fu
    induction fu with
    | zero =>
      intro i hm hi
      exfalso
      omega
    | succ fu ih =>
      intro i hm hi
      refine dt_wfV fun hwf => ?_
      have hcl := xCnt_le P i
      refine dt_iloadn dX8_manyOf_4 rfl rfl ?_
      refine dt_aloadn dX8_manyOf_5 rfl rfl ?_
      refine dt_alen dX8_manyOf_6 hs (by decide) ?_
      refine dt_cm_ge (tgt := 25) dX8_manyOf_7 (by decide) (by first | assumption | exact hwf _ _ | exact dt_b32 _ | omega | exact ⟨by omega, by omega⟩ | decide | exact ⟨by simp (disch := omega) only [dt_up_s, dt_up_k, dt_up_n]; omega, by simp (disch := omega) only [dt_up_s, dt_up_k, dt_up_n]; omega⟩) (by first | assumption | exact hwf _ _ | exact dt_b32 _ | omega | exact ⟨by omega, by omega⟩ | decide | exact ⟨by simp (disch := omega) only [dt_up_s, dt_up_k, dt_up_n]; omega, by simp (disch := omega) only [dt_up_s, dt_up_k, dt_up_n]; omega⟩) (fun c1 => ?_) (fun c1 => ?_)
      · skip
        refine dt_iloadn dX8_manyOf_25 rfl rfl ?_
        refine dt_iret dX8_manyOf_26 rfl (by decide) (by decide) ?_
        obtain rfl : i = 256 := by omega
        exact ⟨rfl, rfl, rfl⟩
      · skip
        refine dt_aloadn dX8_manyOf_10 rfl rfl ?_
        refine dt_iloadn dX8_manyOf_11 rfl rfl ?_
        refine dt_zald dX8_manyOf_12 hs (by first | omega | (simp (disch := omega) only [dt_up_s, dt_up_k, dt_up_n]; omega)) (by first | omega | (simp (disch := omega) only [dt_up_s, dt_up_k, dt_up_n]; omega)) (by decide) ?_
        rw [Int.toNat_natCast, hM i (by omega)]
        refine dt_if_eq (tgt := 19) dX8_manyOf_13 (by decide) (by first | assumption | exact hwf _ _ | exact dt_b32 _ | omega | exact ⟨by omega, by omega⟩ | decide | exact ⟨by simp (disch := omega) only [dt_up_s, dt_up_k, dt_up_n]; omega, by simp (disch := omega) only [dt_up_s, dt_up_k, dt_up_n]; omega⟩) (fun c2 => ?_) (fun c2 => ?_)
        · skip
          try simp only [dt_b0, dt_b1, Decidable.not_not, Classical.not_not] at c2
          have hnp : ¬ P i := by assumption
          refine dt_iinc dX8_manyOf_19 rfl (by decide) rfl ?_
          dsimp only [List.set]
          refine dt_goto (tgt := 4) dX8_manyOf_22 (by decide) ?_
          exact dt_lb (ih (i + 1) (by omega) (by omega)) ⟨rfl, (dt_ie (by first | (rw [xCnt_y (by assumption)]; omega) | (rw [xCnt_n (by assumption)]; done) | (rw [xCnt_n (by assumption)]; omega))), rfl, trivial⟩
        · skip
          try simp only [dt_b0, dt_b1, Decidable.not_not, Classical.not_not] at c2
          have hyp : P i := by assumption
          refine dt_iinc dX8_manyOf_16 rfl (by decide) rfl ?_
          dsimp only [List.set]
          refine dt_iinc dX8_manyOf_19 rfl (by decide) rfl ?_
          dsimp only [List.set]
          refine dt_goto (tgt := 4) dX8_manyOf_22 (by decide) ?_
          exact dt_lb (ih (i + 1) (by omega) (by omega)) ⟨rfl, (dt_ie (by first | (rw [xCnt_y (by assumption)]; omega) | (rw [xCnt_n (by assumption)]; done) | (rw [xCnt_n (by assumption)]; omega))), rfl, trivial⟩
  exact dt_lb (lp4 300 0 (by omega) (by omega)) ⟨rfl, rfl, rfl, trivial⟩
theorem s_X8_numberOf {ex : List dt_Shp} {σ : dt_Mem} {P : Nat → Prop} {a : Nat} {k : Int} (hs : (dt_SH ++ ex)[a]? = some (.inr (1, 256))) (hM : mP σ a 256 P) (hk : 0 ≤ k) (hk2 : dt_in32 k) : dt_Sp mX8_numberOf 0 0 0 [dt_R a, dt_I k] (dt_SH ++ ex) σ (fun v sh2 σ2 => v = some (dt_I (oNth P k)) ∧ sh2 = dt_SH ++ ex ∧ σ2 = σ) := by
  refine dt_Sp_of (by decide) (Nat.le_of_ble_eq_true rfl) ?_
  refine dt_wfV fun hwf => ?_
  obtain ⟨hk3, hk4⟩ := hk2
  show dt_V _ _ _ 0 0 0 [some (dt_R a), some (dt_I k), none, none] [] _ _
  refine dt_iloadn dX8_numberOf_0 rfl rfl ?_
  refine dt_istoren dX8_numberOf_1 rfl (by decide) rfl ?_
  dsimp only [List.set]
  refine dt_iconst dX8_numberOf_2 ?_
  refine dt_istoren dX8_numberOf_3 rfl (by decide) rfl ?_
  dsimp only [List.set]
  have lp4 : ∀ (fu : Nat) (i : Nat), 256 - (i : Int) < (fu : Int) → (i ≤ 256) → (∀ j, j < i → P j → ((xCnt P j : Nat) : Int) ≠ k) →  dt_V mX8_numberOf (dt_rm 0 0 0) (dt_MC (fun v sh2 σ2 => v = some (dt_I (oNth P k)) ∧ sh2 = dt_SH ++ ex ∧ σ2 = σ) 0 0) 0 0 4 [some (dt_R a), some (dt_I k), some (dt_I (k - ((xCnt P i : Nat) : Int))), some (dt_I (i : Int))] [] (dt_SH ++ ex) σ := by
    intro fu
    induction fu with
    | zero =>
      intro i hm hi hn
      exfalso
      omega
    | succ fu ih =>
      intro i hm hi hn
      refine dt_wfV fun hwf => ?_
      have hcl := xCnt_le P i
      refine dt_iloadn dX8_numberOf_4 rfl rfl ?_
      refine dt_aloadn dX8_numberOf_5 rfl rfl ?_
      refine dt_alen dX8_numberOf_6 hs (by decide) ?_
      refine dt_cm_ge (tgt := 31) dX8_numberOf_7 (by decide) (by first | assumption | exact hwf _ _ | exact dt_b32 _ | omega | exact ⟨by omega, by omega⟩ | decide | exact ⟨by simp (disch := omega) only [dt_up_s, dt_up_k, dt_up_n]; omega, by simp (disch := omega) only [dt_up_s, dt_up_k, dt_up_n]; omega⟩) (by first | assumption | exact hwf _ _ | exact dt_b32 _ | omega | exact ⟨by omega, by omega⟩ | decide | exact ⟨by simp (disch := omega) only [dt_up_s, dt_up_k, dt_up_n]; omega, by simp (disch := omega) only [dt_up_s, dt_up_k, dt_up_n]; omega⟩) (fun c1 => ?_) (fun c1 => ?_)
      · skip
        refine dt_ldc dX8_numberOf_31 pk_X8_84 ?_
        refine dt_iret dX8_numberOf_33 rfl (by decide) (by decide) ?_
        exact ⟨by rw [oNth_n (fun j hj hp => hn j (by omega) hp)], rfl, rfl⟩
      · skip
        refine dt_aloadn dX8_numberOf_10 rfl rfl ?_
        refine dt_iloadn dX8_numberOf_11 rfl rfl ?_
        refine dt_zald dX8_numberOf_12 hs (by first | omega | (simp (disch := omega) only [dt_up_s, dt_up_k, dt_up_n]; omega)) (by first | omega | (simp (disch := omega) only [dt_up_s, dt_up_k, dt_up_n]; omega)) (by decide) ?_
        rw [Int.toNat_natCast, hM i (by omega)]
        refine dt_if_eq (tgt := 25) dX8_numberOf_13 (by decide) (by first | assumption | exact hwf _ _ | exact dt_b32 _ | omega | exact ⟨by omega, by omega⟩ | decide | exact ⟨by simp (disch := omega) only [dt_up_s, dt_up_k, dt_up_n]; omega, by simp (disch := omega) only [dt_up_s, dt_up_k, dt_up_n]; omega⟩) (fun c2 => ?_) (fun c2 => ?_)
        · skip
          try simp only [dt_b0, dt_b1, Decidable.not_not, Classical.not_not] at c2
          have hnp : ¬ P i := by assumption
          refine dt_iinc dX8_numberOf_25 rfl (by decide) rfl ?_
          dsimp only [List.set]
          refine dt_goto (tgt := 4) dX8_numberOf_28 (by decide) ?_
          have hn2 : ∀ j, j < i + 1 → P j → ((xCnt P j : Nat) : Int) ≠ k := fun j hj hp => by
            by_cases e : j = i
            · subst e; exact absurd hp hnp
            · exact hn j (by omega) hp
          exact dt_lb (ih (i + 1) (by omega) (by omega) hn2) ⟨rfl, rfl, (dt_ie (by first | (rw [xCnt_y (by assumption)]; omega) | (rw [xCnt_n (by assumption)]; done) | (rw [xCnt_n (by assumption)]; omega))), rfl, trivial⟩
        · skip
          try simp only [dt_b0, dt_b1, Decidable.not_not, Classical.not_not] at c2
          have hyp : P i := by assumption
          refine dt_iloadn dX8_numberOf_16 rfl rfl ?_
          refine dt_if_ne (tgt := 22) dX8_numberOf_17 (by decide) (by first | assumption | exact hwf _ _ | exact dt_b32 _ | omega | exact ⟨by omega, by omega⟩ | decide | exact ⟨by simp (disch := omega) only [dt_up_s, dt_up_k, dt_up_n]; omega, by simp (disch := omega) only [dt_up_s, dt_up_k, dt_up_n]; omega⟩) (fun c3 => ?_) (fun c3 => ?_)
          · skip
            refine dt_iinc dX8_numberOf_22 rfl (by decide) rfl ?_
            dsimp only [List.set]
            refine dt_iinc dX8_numberOf_25 rfl (by decide) rfl ?_
            dsimp only [List.set]
            refine dt_goto (tgt := 4) dX8_numberOf_28 (by decide) ?_
            have hn2 : ∀ j, j < i + 1 → P j → ((xCnt P j : Nat) : Int) ≠ k := fun j hj hp => by
              by_cases e : j = i
              · subst e; omega
              · exact hn j (by omega) hp
            exact dt_lb (ih (i + 1) (by omega) (by omega) hn2) ⟨rfl, rfl, (dt_ie (by first | (rw [xCnt_y (by assumption)]; omega) | (rw [xCnt_n (by assumption)]; done) | (rw [xCnt_n (by assumption)]; omega))), rfl, trivial⟩
          · skip
            refine dt_iloadn dX8_numberOf_20 rfl rfl ?_
            refine dt_iret dX8_numberOf_21 rfl (by decide) (by decide) ?_
            exact ⟨by rw [oNth_y (by omega) hyp (by omega)], rfl, rfl⟩
  exact dt_lb (lp4 300 0 (by omega) (by omega) (fun j hj => absurd hj (Nat.not_lt_zero j))) ⟨rfl, rfl, (dt_ie (by show k = k - ((0 : Nat) : Int); omega)), rfl, trivial⟩
theorem s_X12_marked {ex : List dt_Shp} {σ : dt_Mem} {P : Nat → Prop} {a : Nat} {k : Int} (hs : (dt_SH ++ ex)[a]? = some (.inr (1, 256))) (hM : mP σ a 256 P) (hk2 : dt_in32 k) : dt_Sp mX12_marked 0 0 0 [dt_R 40, dt_R a, dt_I k] (dt_SH ++ ex) σ (fun v sh2 σ2 => v = some (dt_I (oM P k)) ∧ sh2 = dt_SH ++ ex ∧ σ2 = σ) := by
  refine dt_Sp_of (by decide) (Nat.le_of_ble_eq_true rfl) ?_
  refine dt_wfV fun hwf => ?_
  obtain ⟨hk3, hk4⟩ := hk2
  show dt_V _ _ _ 0 0 0 [some (dt_R 40), some (dt_R a), some (dt_I k), none, none] [] _ _
  refine dt_iconst dX12_marked_0 ?_
  refine dt_istoren dX12_marked_1 rfl (by decide) rfl ?_
  dsimp only [List.set]
  refine dt_iconst dX12_marked_2 ?_
  refine dt_istore dX12_marked_3 (by decide) rfl ?_
  dsimp only [List.set]
  have lp5 : ∀ (fu : Nat) (i : Nat), 256 - (i : Int) < (fu : Int) → (i ≤ 256) → (∀ j, j < i → P j → ((xCnt P j : Nat) : Int) ≠ k) →  dt_V mX12_marked (dt_rm 0 0 0) (dt_MC (fun v sh2 σ2 => v = some (dt_I (oM P k)) ∧ sh2 = dt_SH ++ ex ∧ σ2 = σ) 0 0) 0 0 5 [some (dt_R 40), some (dt_R a), some (dt_I k), some (dt_I ((xCnt P i : Nat) : Int)), some (dt_I (i : Int))] [] (dt_SH ++ ex) σ := by
    intro fu
    induction fu with
    | zero =>
      intro i hm hi hn
      exfalso
      omega
    | succ fu ih =>
      intro i hm hi hn
      refine dt_wfV fun hwf => ?_
      have hcl := xCnt_le P i
      refine dt_iload dX12_marked_5 rfl ?_
      refine dt_sipush dX12_marked_7 (by decide) ?_
      refine dt_cm_ge (tgt := 49) dX12_marked_10 (by decide) (by first | assumption | exact hwf _ _ | exact dt_b32 _ | omega | exact ⟨by omega, by omega⟩ | decide | exact ⟨by simp (disch := omega) only [dt_up_s, dt_up_k, dt_up_n]; omega, by simp (disch := omega) only [dt_up_s, dt_up_k, dt_up_n]; omega⟩) (by first | assumption | exact hwf _ _ | exact dt_b32 _ | omega | exact ⟨by omega, by omega⟩ | decide | exact ⟨by simp (disch := omega) only [dt_up_s, dt_up_k, dt_up_n]; omega, by simp (disch := omega) only [dt_up_s, dt_up_k, dt_up_n]; omega⟩) (fun c1 => ?_) (fun c1 => ?_)
      · skip
        refine dt_iloadn dX12_marked_49 rfl rfl ?_
        refine dt_if_ge (tgt := 57) dX12_marked_50 (by decide) (by first | assumption | exact hwf _ _ | exact dt_b32 _ | omega | exact ⟨by omega, by omega⟩ | decide | exact ⟨by simp (disch := omega) only [dt_up_s, dt_up_k, dt_up_n]; omega, by simp (disch := omega) only [dt_up_s, dt_up_k, dt_up_n]; omega⟩) (fun c2 => ?_) (fun c2 => ?_)
        · skip
          refine dt_ldc dX12_marked_57 pk_X12_89 ?_
          refine dt_iret dX12_marked_59 rfl (by decide) (by decide) ?_
          refine ⟨?_, rfl, rfl⟩
          unfold oM
          first | (rw [if_pos (by omega), show i = 256 by omega]; done) | rw [if_neg (by omega), oNth_n (fun j hj hp => hn j (by omega) hp)]
        · skip
          refine dt_iloadn dX12_marked_53 rfl rfl ?_
          refine dt_goto (tgt := 59) dX12_marked_54 (by decide) ?_
          refine dt_iret dX12_marked_59 rfl (by decide) (by decide) ?_
          refine ⟨?_, rfl, rfl⟩
          unfold oM
          first | (rw [if_pos (by omega), show i = 256 by omega]; done) | rw [if_neg (by omega), oNth_n (fun j hj hp => hn j (by omega) hp)]
      · skip
        refine dt_aloadn dX12_marked_13 rfl rfl ?_
        refine dt_iload dX12_marked_14 rfl ?_
        refine dt_zald dX12_marked_16 hs (by first | omega | (simp (disch := omega) only [dt_up_s, dt_up_k, dt_up_n]; omega)) (by first | omega | (simp (disch := omega) only [dt_up_s, dt_up_k, dt_up_n]; omega)) (by decide) ?_
        rw [Int.toNat_natCast, hM i (by omega)]
        refine dt_if_eq (tgt := 28) dX12_marked_17 (by decide) (by first | assumption | exact hwf _ _ | exact dt_b32 _ | omega | exact ⟨by omega, by omega⟩ | decide | exact ⟨by simp (disch := omega) only [dt_up_s, dt_up_k, dt_up_n]; omega, by simp (disch := omega) only [dt_up_s, dt_up_k, dt_up_n]; omega⟩) (fun c3 => ?_) (fun c3 => ?_)
        · skip
          try simp only [dt_b0, dt_b1, Decidable.not_not, Classical.not_not] at c3
          have hnp : ¬ P i := by assumption
          refine dt_iloadn dX12_marked_28 rfl rfl ?_
          refine dt_aloadn dX12_marked_29 rfl rfl ?_
          refine dt_iload dX12_marked_30 rfl ?_
          refine dt_zald dX12_marked_32 hs (by first | omega | (simp (disch := omega) only [dt_up_s, dt_up_k, dt_up_n]; omega)) (by first | omega | (simp (disch := omega) only [dt_up_s, dt_up_k, dt_up_n]; omega)) (by decide) ?_
          rw [Int.toNat_natCast, hM i (by omega)]
          refine dt_if_eq (tgt := 40) dX12_marked_33 (by decide) (by first | assumption | exact hwf _ _ | exact dt_b32 _ | omega | exact ⟨by omega, by omega⟩ | decide | exact ⟨by simp (disch := omega) only [dt_up_s, dt_up_k, dt_up_n]; omega, by simp (disch := omega) only [dt_up_s, dt_up_k, dt_up_n]; omega⟩) (fun c4 => ?_) (fun c4 => ?_)
          · skip
            try simp only [dt_b0, dt_b1, Decidable.not_not, Classical.not_not] at c4
            refine dt_iconst dX12_marked_40 ?_
            refine dt_iadd dX12_marked_41 ?_
            refine dt_istoren dX12_marked_42 rfl (by decide) rfl ?_
            dsimp only [List.set]
            refine dt_iinc dX12_marked_43 rfl (by decide) rfl ?_
            dsimp only [List.set]
            refine dt_goto (tgt := 5) dX12_marked_46 (by decide) ?_
            have hn2 : ∀ j, j < i + 1 → P j → ((xCnt P j : Nat) : Int) ≠ k := fun j hj hp => by
              by_cases e : j = i
              · subst e; exact absurd hp hnp
              · exact hn j (by omega) hp
            exact dt_lb (ih (i + 1) (by omega) (by omega) hn2) ⟨rfl, rfl, rfl, (dt_ie (by first | (rw [xCnt_y (by assumption)]; omega) | (rw [xCnt_n (by assumption)]; done) | (rw [xCnt_n (by assumption)]; omega))), rfl, trivial⟩
          · skip
            try simp only [dt_b0, dt_b1, Decidable.not_not, Classical.not_not] at c4
            exact absurd (by assumption) hnp
        · skip
          try simp only [dt_b0, dt_b1, Decidable.not_not, Classical.not_not] at c3
          have hyp : P i := by assumption
          refine dt_iloadn dX12_marked_20 rfl rfl ?_
          refine dt_iloadn dX12_marked_21 rfl rfl ?_
          refine dt_cm_ne (tgt := 28) dX12_marked_22 (by decide) (by first | assumption | exact hwf _ _ | exact dt_b32 _ | omega | exact ⟨by omega, by omega⟩ | decide | exact ⟨by simp (disch := omega) only [dt_up_s, dt_up_k, dt_up_n]; omega, by simp (disch := omega) only [dt_up_s, dt_up_k, dt_up_n]; omega⟩) (by first | assumption | exact hwf _ _ | exact dt_b32 _ | omega | exact ⟨by omega, by omega⟩ | decide | exact ⟨by simp (disch := omega) only [dt_up_s, dt_up_k, dt_up_n]; omega, by simp (disch := omega) only [dt_up_s, dt_up_k, dt_up_n]; omega⟩) (fun c5 => ?_) (fun c5 => ?_)
          · skip
            refine dt_iloadn dX12_marked_28 rfl rfl ?_
            refine dt_aloadn dX12_marked_29 rfl rfl ?_
            refine dt_iload dX12_marked_30 rfl ?_
            refine dt_zald dX12_marked_32 hs (by first | omega | (simp (disch := omega) only [dt_up_s, dt_up_k, dt_up_n]; omega)) (by first | omega | (simp (disch := omega) only [dt_up_s, dt_up_k, dt_up_n]; omega)) (by decide) ?_
            rw [Int.toNat_natCast, hM i (by omega)]
            refine dt_if_eq (tgt := 40) dX12_marked_33 (by decide) (by first | assumption | exact hwf _ _ | exact dt_b32 _ | omega | exact ⟨by omega, by omega⟩ | decide | exact ⟨by simp (disch := omega) only [dt_up_s, dt_up_k, dt_up_n]; omega, by simp (disch := omega) only [dt_up_s, dt_up_k, dt_up_n]; omega⟩) (fun c6 => ?_) (fun c6 => ?_)
            · skip
              try simp only [dt_b0, dt_b1, Decidable.not_not, Classical.not_not] at c6
              exact absurd hyp (by assumption)
            · skip
              try simp only [dt_b0, dt_b1, Decidable.not_not, Classical.not_not] at c6
              refine dt_iconst dX12_marked_36 ?_
              refine dt_goto (tgt := 41) dX12_marked_37 (by decide) ?_
              refine dt_iadd dX12_marked_41 ?_
              refine dt_istoren dX12_marked_42 rfl (by decide) rfl ?_
              dsimp only [List.set]
              refine dt_iinc dX12_marked_43 rfl (by decide) rfl ?_
              dsimp only [List.set]
              refine dt_goto (tgt := 5) dX12_marked_46 (by decide) ?_
              have hn2 : ∀ j, j < i + 1 → P j → ((xCnt P j : Nat) : Int) ≠ k := fun j hj hp => by
                by_cases e : j = i
                · subst e; omega
                · exact hn j (by omega) hp
              exact dt_lb (ih (i + 1) (by omega) (by omega) hn2) ⟨rfl, rfl, rfl, (dt_ie (by first | (rw [xCnt_y (by assumption)]; omega) | (rw [xCnt_n (by assumption)]; done) | (rw [xCnt_n (by assumption)]; omega))), rfl, trivial⟩
          · skip
            refine dt_iload dX12_marked_25 rfl ?_
            refine dt_iret dX12_marked_27 rfl (by decide) (by decide) ?_
            refine ⟨?_, rfl, rfl⟩
            unfold oM
            rw [if_neg (by omega), oNth_y (by omega) hyp (by omega)]
  exact dt_lb (lp5 300 0 (by omega) (by omega) (fun j hj => absurd hj (Nat.not_lt_zero j))) ⟨rfl, rfl, rfl, rfl, rfl, trivial⟩
theorem s_X8_mayMean {ex : List dt_Shp} {σ : dt_Mem} {P : Nat → Prop} {k : Int} (hM : mP σ 32 256 P) (hk : dt_in32 k) : dt_Sp mX8_mayMean 0 0 0 [dt_R 31, dt_I k] (dt_SH ++ ex) σ (fun v sh2 σ2 => v = some (dt_I (dt_b (0 ≤ k ∧ k < 256 ∧ P k.toNat))) ∧ sh2 = dt_SH ++ ex ∧ σ2 = σ) := by
  refine dt_Sp_of (by decide) (Nat.le_of_ble_eq_true rfl) ?_
  refine dt_wfV fun hwf => ?_
  show dt_V _ _ _ 0 0 0 [some (dt_R 31), some (dt_I k)] [] _ _
  refine dt_iconst dX8_mayMean_0 ?_
  refine dt_iloadn dX8_mayMean_1 rfl rfl ?_
  refine dt_cm_gt (tgt := 25) dX8_mayMean_2 (by decide) (by first | assumption | exact hwf _ _ | exact dt_b32 _ | omega | exact ⟨by omega, by omega⟩ | decide | exact ⟨by simp (disch := omega) only [dt_up_s, dt_up_k, dt_up_n]; omega, by simp (disch := omega) only [dt_up_s, dt_up_k, dt_up_n]; omega⟩) (by first | assumption | exact hwf _ _ | exact dt_b32 _ | omega | exact ⟨by omega, by omega⟩ | decide | exact ⟨by simp (disch := omega) only [dt_up_s, dt_up_k, dt_up_n]; omega, by simp (disch := omega) only [dt_up_s, dt_up_k, dt_up_n]; omega⟩) (fun c1 => ?_) (fun c1 => ?_)
  · skip
    have hno : ¬ (0 ≤ k ∧ k < 256 ∧ P k.toNat) := fun z => by have := z.1; omega
    refine dt_iconst dX8_mayMean_25 ?_
    refine dt_zret dX8_mayMean_26 rfl (by decide) (by decide) (by first | exact Or.inl rfl | exact Or.inr rfl | assumption | omega) ?_
    first | exact ⟨by rw [dt_bT hye], rfl, rfl⟩ | exact ⟨by rw [dt_bF hno], rfl, rfl⟩
  · skip
    refine dt_iloadn dX8_mayMean_5 rfl rfl ?_
    refine dt_sipush dX8_mayMean_6 (by decide) ?_
    refine dt_cm_ge (tgt := 25) dX8_mayMean_9 (by decide) (by first | assumption | exact hwf _ _ | exact dt_b32 _ | omega | exact ⟨by omega, by omega⟩ | decide | exact ⟨by simp (disch := omega) only [dt_up_s, dt_up_k, dt_up_n]; omega, by simp (disch := omega) only [dt_up_s, dt_up_k, dt_up_n]; omega⟩) (by first | assumption | exact hwf _ _ | exact dt_b32 _ | omega | exact ⟨by omega, by omega⟩ | decide | exact ⟨by simp (disch := omega) only [dt_up_s, dt_up_k, dt_up_n]; omega, by simp (disch := omega) only [dt_up_s, dt_up_k, dt_up_n]; omega⟩) (fun c2 => ?_) (fun c2 => ?_)
    · skip
      have hno : ¬ (0 ≤ k ∧ k < 256 ∧ P k.toNat) := fun z => by have := z.2.1; omega
      refine dt_iconst dX8_mayMean_25 ?_
      refine dt_zret dX8_mayMean_26 rfl (by decide) (by decide) (by first | exact Or.inl rfl | exact Or.inr rfl | assumption | omega) ?_
      first | exact ⟨by rw [dt_bT hye], rfl, rfl⟩ | exact ⟨by rw [dt_bF hno], rfl, rfl⟩
    · skip
      refine dt_aloadn dX8_mayMean_12 rfl rfl ?_
      refine dt_getR dX8_mayMean_13 pg_X8_15_8 rfl rfl ?_
      refine dt_iloadn dX8_mayMean_16 rfl rfl ?_
      refine dt_zald dX8_mayMean_17 rfl (by first | omega | (simp (disch := omega) only [dt_up_s, dt_up_k, dt_up_n]; omega)) (by first | omega | (simp (disch := omega) only [dt_up_s, dt_up_k, dt_up_n]; omega)) (by decide) ?_
      rw [hM k.toNat (by omega)]
      refine dt_if_eq (tgt := 25) dX8_mayMean_18 (by decide) (by first | assumption | exact hwf _ _ | exact dt_b32 _ | omega | exact ⟨by omega, by omega⟩ | decide | exact ⟨by simp (disch := omega) only [dt_up_s, dt_up_k, dt_up_n]; omega, by simp (disch := omega) only [dt_up_s, dt_up_k, dt_up_n]; omega⟩) (fun c3 => ?_) (fun c3 => ?_)
      · skip
        try simp only [dt_b0, dt_b1, Decidable.not_not, Classical.not_not] at c3
        have hno : ¬ (0 ≤ k ∧ k < 256 ∧ P k.toNat) := fun z => absurd z.2.2 (by assumption)
        refine dt_iconst dX8_mayMean_25 ?_
        refine dt_zret dX8_mayMean_26 rfl (by decide) (by decide) (by first | exact Or.inl rfl | exact Or.inr rfl | assumption | omega) ?_
        first | exact ⟨by rw [dt_bT hye], rfl, rfl⟩ | exact ⟨by rw [dt_bF hno], rfl, rfl⟩
      · skip
        try simp only [dt_b0, dt_b1, Decidable.not_not, Classical.not_not] at c3
        have hye : 0 ≤ k ∧ k < 256 ∧ P k.toNat := ⟨by omega, by omega, by assumption⟩
        refine dt_iconst dX8_mayMean_21 ?_
        refine dt_goto (tgt := 26) dX8_mayMean_22 (by decide) ?_
        refine dt_zret dX8_mayMean_26 rfl (by decide) (by decide) (by first | exact Or.inl rfl | exact Or.inr rfl | assumption | omega) ?_
        first | exact ⟨by rw [dt_bT hye], rfl, rfl⟩ | exact ⟨by rw [dt_bF hno], rfl, rfl⟩
theorem s_X8_meaning {ex : List dt_Shp} {σ : dt_Mem} {P : Nat → Prop} {k : Int} (hM : mP σ 32 256 P) (hk : dt_in32 k) : dt_Sp mX8_meaning 1 0 0 [dt_R 31, dt_I k] (dt_SH ++ ex) σ (fun v sh2 σ2 => v = some (dt_I (oM P k)) ∧ sh2 = dt_SH ++ ex ∧ σ2 = σ) := by
  refine dt_Sp_of (by decide) (Nat.le_of_ble_eq_true rfl) ?_
  refine dt_wfV fun hwf => ?_
  obtain ⟨hk3, hk4⟩ := id hk
  show dt_V _ _ _ 0 0 0 [some (dt_R 31), some (dt_I k)] [] _ _
  refine dt_iloadn dX8_meaning_0 rfl rfl ?_
  refine dt_if_ge (tgt := 14) dX8_meaning_1 (by decide) (by first | assumption | exact hwf _ _ | exact dt_b32 _ | omega | exact ⟨by omega, by omega⟩ | decide | exact ⟨by simp (disch := omega) only [dt_up_s, dt_up_k, dt_up_n]; omega, by simp (disch := omega) only [dt_up_s, dt_up_k, dt_up_n]; omega⟩) (fun c1 => ?_) (fun c1 => ?_)
  · skip
    refine dt_aloadn dX8_meaning_14 rfl rfl ?_
    refine dt_getR dX8_meaning_15 pg_X8_15_8 rfl rfl ?_
    refine dt_iloadn dX8_meaning_18 rfl rfl ?_
    refine dt_xS dX8_meaning_19 pc_X8_58 (s_X8_numberOf rfl hM (by omega) hk) rfl rfl ⟨by decide, by decide⟩ (Nat.le_of_ble_eq_true rfl) ⟨by decide, by decide⟩ (dt_k3 ?_)
    refine dt_iret dX8_meaning_22 rfl (by decide) (by decide) ?_
    refine ⟨?_, rfl, rfl⟩
    unfold oM
    first | (rw [if_pos (by omega)]; done) | (rw [if_neg (by omega)]; done)
  · skip
    refine dt_aloadn dX8_meaning_4 rfl rfl ?_
    refine dt_getR dX8_meaning_5 pg_X8_15_8 rfl rfl ?_
    refine dt_xS dX8_meaning_8 pc_X8_54 (s_X8_manyOf rfl hM) rfl rfl ⟨by decide, by decide⟩ (Nat.le_of_ble_eq_true rfl) ⟨by decide, by decide⟩ (dt_k3 ?_)
    refine dt_goto (tgt := 22) dX8_meaning_11 (by decide) ?_
    refine dt_iret dX8_meaning_22 rfl (by decide) (by decide) ?_
    refine ⟨?_, rfl, rfl⟩
    unfold oM
    first | (rw [if_pos (by omega)]; done) | (rw [if_neg (by omega)]; done)
theorem s_X8_meaningAlike {ex : List dt_Shp} {σ : dt_Mem} {P : Nat → Prop} {k : Int} (hM : mP σ 34 256 P) (hk : dt_in32 k) : dt_Sp mX8_meaningAlike 1 0 0 [dt_R 31, dt_I k] (dt_SH ++ ex) σ (fun v sh2 σ2 => v = some (dt_I (oM P k)) ∧ sh2 = dt_SH ++ ex ∧ σ2 = σ) := by
  refine dt_Sp_of (by decide) (Nat.le_of_ble_eq_true rfl) ?_
  refine dt_wfV fun hwf => ?_
  obtain ⟨hk3, hk4⟩ := id hk
  show dt_V _ _ _ 0 0 0 [some (dt_R 31), some (dt_I k)] [] _ _
  refine dt_iloadn dX8_meaningAlike_0 rfl rfl ?_
  refine dt_if_ge (tgt := 14) dX8_meaningAlike_1 (by decide) (by first | assumption | exact hwf _ _ | exact dt_b32 _ | omega | exact ⟨by omega, by omega⟩ | decide | exact ⟨by simp (disch := omega) only [dt_up_s, dt_up_k, dt_up_n]; omega, by simp (disch := omega) only [dt_up_s, dt_up_k, dt_up_n]; omega⟩) (fun c1 => ?_) (fun c1 => ?_)
  · skip
    refine dt_aloadn dX8_meaningAlike_14 rfl rfl ?_
    refine dt_getR dX8_meaningAlike_15 pg_X8_22_8 rfl rfl ?_
    refine dt_iloadn dX8_meaningAlike_18 rfl rfl ?_
    refine dt_xS dX8_meaningAlike_19 pc_X8_58 (s_X8_numberOf rfl hM (by omega) hk) rfl rfl ⟨by decide, by decide⟩ (Nat.le_of_ble_eq_true rfl) ⟨by decide, by decide⟩ (dt_k3 ?_)
    refine dt_iret dX8_meaningAlike_22 rfl (by decide) (by decide) ?_
    refine ⟨?_, rfl, rfl⟩
    unfold oM
    first | (rw [if_pos (by omega)]; done) | (rw [if_neg (by omega)]; done)
  · skip
    refine dt_aloadn dX8_meaningAlike_4 rfl rfl ?_
    refine dt_getR dX8_meaningAlike_5 pg_X8_22_8 rfl rfl ?_
    refine dt_xS dX8_meaningAlike_8 pc_X8_54 (s_X8_manyOf rfl hM) rfl rfl ⟨by decide, by decide⟩ (Nat.le_of_ble_eq_true rfl) ⟨by decide, by decide⟩ (dt_k3 ?_)
    refine dt_goto (tgt := 22) dX8_meaningAlike_11 (by decide) ?_
    refine dt_iret dX8_meaningAlike_22 rfl (by decide) (by decide) ?_
    refine ⟨?_, rfl, rfl⟩
    unfold oM
    first | (rw [if_pos (by omega)]; done) | (rw [if_neg (by omega)]; done)
theorem s_X12_mean {ex : List dt_Shp} {σ : dt_Mem} {X : dX} {P : Nat → Prop} {t w : Nat} {wd : Nat × List Nat} (hX : rX σ X) (hw : xW X t w wd) (hM : mP σ 47 256 P) : dt_Sp mX12_mean 1 0 0 [dt_R 40, dt_I (t : Int), dt_I (w : Int)] (dt_SH ++ ex) σ (fun v sh2 σ2 => v = none ∧ sh2 = dt_SH ++ ex ∧ (∀ b, b ≠ 47 → b ≠ 48 → σ2 b = σ b) ∧ mP σ2 47 256 (xSay P wd.2)) := by
  refine dt_Sp_of (by decide) (Nat.le_of_ble_eq_true rfl) ?_
  refine dt_wfV fun hwf => ?_
  obtain ⟨⟨k0, k1, k2, k3⟩, k4, k5, k6⟩ := hX.wd hw
  have k7 := k3.2.2.1
  have k8 := k3.2.2.2.1
  show dt_V _ _ _ 0 0 0 [some (dt_R 40), some (dt_I (t : Int)), some (dt_I (w : Int)), none, none] [] _ _
  refine dt_iconst dX12_mean_0 ?_
  refine dt_istoren dX12_mean_1 rfl (by decide) rfl ?_
  dsimp only [List.set]
  have lp2 : ∀ (fu : Nat) (i : Nat) (σ1 : dt_Mem), 256 - (i : Int) < (fu : Int) → (i ≤ 256) → (∀ b, b ≠ 48 → σ1 b = σ b) → (mP σ1 48 i (fun _ => False)) →  dt_V mX12_mean (dt_rm 1 0 0) (dt_MC (fun v sh2 σ2 => v = none ∧ sh2 = dt_SH ++ ex ∧ (∀ b, b ≠ 47 → b ≠ 48 → σ2 b = σ b) ∧ mP σ2 47 256 (xSay P wd.2)) 0 0) 0 0 2 [some (dt_R 40), some (dt_I (t : Int)), some (dt_I (w : Int)), some (dt_I (i : Int)), none] [] (dt_SH ++ ex) σ1 := by
    intro fu
    induction fu with
    | zero =>
      intro i σ1 hm ji jf jm
      exfalso
      omega
    | succ fu ih =>
      intro i σ1 hm ji jf jm
      refine dt_wfV fun hwf => ?_
      refine dt_iloadn dX12_mean_2 rfl rfl ?_
      refine dt_sipush dX12_mean_3 (by decide) ?_
      refine dt_cm_ge (tgt := 22) dX12_mean_6 (by decide) (by first | assumption | exact hwf _ _ | exact dt_b32 _ | omega | exact ⟨by omega, by omega⟩ | decide | exact ⟨by simp (disch := omega) only [dt_up_s, dt_up_k, dt_up_n]; omega, by simp (disch := omega) only [dt_up_s, dt_up_k, dt_up_n]; omega⟩) (by first | assumption | exact hwf _ _ | exact dt_b32 _ | omega | exact ⟨by omega, by omega⟩ | decide | exact ⟨by simp (disch := omega) only [dt_up_s, dt_up_k, dt_up_n]; omega, by simp (disch := omega) only [dt_up_s, dt_up_k, dt_up_n]; omega⟩) (fun c1 => ?_) (fun c1 => ?_)
      · skip
        refine dt_iconst dX12_mean_22 ?_
        refine dt_istoren dX12_mean_23 rfl (by decide) rfl ?_
        dsimp only [List.set]
        have lp24 : ∀ (fu : Nat) (i : Nat) (σ1 : dt_Mem), 256 - (i : Int) < (fu : Int) → (i ≤ 256) → (∀ b, b ≠ 48 → σ1 b = σ b) → (mP σ1 48 256 (fun k => ∃ s, s < i ∧ P s ∧ ∃ r ∈ wd.2, s ||| r = k)) →  dt_V mX12_mean (dt_rm 1 0 0) (dt_MC (fun v sh2 σ2 => v = none ∧ sh2 = dt_SH ++ ex ∧ (∀ b, b ≠ 47 → b ≠ 48 → σ2 b = σ b) ∧ mP σ2 47 256 (xSay P wd.2)) 0 0) 0 0 24 [some (dt_R 40), some (dt_I (t : Int)), some (dt_I (w : Int)), some (dt_I (i : Int)), none] [] (dt_SH ++ ex) σ1 := by
          intro fu
          induction fu with
          | zero =>
            intro i σ1 hm ki kf km
            exfalso
            omega
          | succ fu ih =>
            intro i σ1 hm ki kf km
            refine dt_wfV fun hwf => ?_
            have ih0 := ih
            refine dt_iloadn dX12_mean_24 rfl rfl ?_
            refine dt_sipush dX12_mean_25 (by decide) ?_
            refine dt_cm_ge (tgt := 82) dX12_mean_28 (by decide) (by first | assumption | exact hwf _ _ | exact dt_b32 _ | omega | exact ⟨by omega, by omega⟩ | decide | exact ⟨by simp (disch := omega) only [dt_up_s, dt_up_k, dt_up_n]; omega, by simp (disch := omega) only [dt_up_s, dt_up_k, dt_up_n]; omega⟩) (by first | assumption | exact hwf _ _ | exact dt_b32 _ | omega | exact ⟨by omega, by omega⟩ | decide | exact ⟨by simp (disch := omega) only [dt_up_s, dt_up_k, dt_up_n]; omega, by simp (disch := omega) only [dt_up_s, dt_up_k, dt_up_n]; omega⟩) (fun c2 => ?_) (fun c2 => ?_)
            · skip
              refine dt_iconst dX12_mean_82 ?_
              refine dt_istoren dX12_mean_83 rfl (by decide) rfl ?_
              dsimp only [List.set]
              have lp84 : ∀ (fu : Nat) (i : Nat) (σ2 : dt_Mem), 256 - (i : Int) < (fu : Int) → (i ≤ 256) → (∀ b, b ≠ 47 → b ≠ 48 → σ2 b = σ b) → (mP σ2 48 256 (xSay P wd.2)) → (mP σ2 47 i (xSay P wd.2)) →  dt_V mX12_mean (dt_rm 1 0 0) (dt_MC (fun v sh2 σ2 => v = none ∧ sh2 = dt_SH ++ ex ∧ (∀ b, b ≠ 47 → b ≠ 48 → σ2 b = σ b) ∧ mP σ2 47 256 (xSay P wd.2)) 0 0) 0 0 84 [some (dt_R 40), some (dt_I (t : Int)), some (dt_I (w : Int)), some (dt_I (i : Int)), none] [] (dt_SH ++ ex) σ2 := by
                intro fu
                induction fu with
                | zero =>
                  intro i σ2 hm ni nf nm nn
                  exfalso
                  omega
                | succ fu ih =>
                  intro i σ2 hm ni nf nm nn
                  refine dt_wfV fun hwf => ?_
                  refine dt_iloadn dX12_mean_84 rfl rfl ?_
                  refine dt_sipush dX12_mean_85 (by decide) ?_
                  refine dt_cm_ge (tgt := 109) dX12_mean_88 (by decide) (by first | assumption | exact hwf _ _ | exact dt_b32 _ | omega | exact ⟨by omega, by omega⟩ | decide | exact ⟨by simp (disch := omega) only [dt_up_s, dt_up_k, dt_up_n]; omega, by simp (disch := omega) only [dt_up_s, dt_up_k, dt_up_n]; omega⟩) (by first | assumption | exact hwf _ _ | exact dt_b32 _ | omega | exact ⟨by omega, by omega⟩ | decide | exact ⟨by simp (disch := omega) only [dt_up_s, dt_up_k, dt_up_n]; omega, by simp (disch := omega) only [dt_up_s, dt_up_k, dt_up_n]; omega⟩) (fun c3 => ?_) (fun c3 => ?_)
                  · skip
                    refine dt_vret dX12_mean_109 rfl (by decide) (by decide) ?_
                    obtain rfl : i = 256 := by omega
                    exact ⟨rfl, rfl, nf, nn⟩
                  · skip
                    refine dt_aloadn dX12_mean_91 rfl rfl ?_
                    refine dt_getR dX12_mean_92 pg_X12_28_12 rfl rfl ?_
                    refine dt_iloadn dX12_mean_95 rfl rfl ?_
                    refine dt_aloadn dX12_mean_96 rfl rfl ?_
                    refine dt_getR dX12_mean_97 pg_X12_32_12 rfl rfl ?_
                    refine dt_iloadn dX12_mean_100 rfl rfl ?_
                    refine dt_zald dX12_mean_101 rfl (by first | omega | (simp (disch := omega) only [dt_up_s, dt_up_k, dt_up_n]; omega)) (by first | omega | (simp (disch := omega) only [dt_up_s, dt_up_k, dt_up_n]; omega)) (by decide) ?_
                    rw [Int.toNat_natCast, nm i (by omega)]
                    refine dt_zast dX12_mean_102 rfl (by first | omega | (simp (disch := omega) only [dt_up_s, dt_up_k, dt_up_n]; omega)) (by first | omega | (simp (disch := omega) only [dt_up_s, dt_up_k, dt_up_n]; omega)) (by decide) (dt_b01 _) ?_
                    refine dt_iinc dX12_mean_103 rfl (by decide) rfl ?_
                    dsimp only [List.set]
                    refine dt_goto (tgt := 84) dX12_mean_106 (by decide) ?_
                    exact dt_lb (ih (i + 1) _ (by omega) (by omega) (fun b h1 h2 => (dt_up_o h1).trans (nf b h1 h2)) (nm.kept (dt_up_o (by decide))) (nn.put rfl)) ⟨rfl, rfl, rfl, rfl, trivial⟩
              obtain rfl : i = 256 := by omega
              have nm0 : mP σ1 48 256 (xSay P wd.2) := km.ext (fun k _ => ⟨fun ⟨s, h1, h2, r, h3, h4⟩ => ⟨s, r, h1, h2, h3, h4⟩, fun ⟨s, r, h1, h2, h3, h4⟩ => ⟨s, h1, h2, r, h3, h4⟩⟩)
              exact dt_lb (lp84 300 0 σ1 (by omega) (by omega) (fun b _ h2 => kf b h2) nm0 (mP.z _ _ _)) ⟨rfl, rfl, rfl, rfl, trivial⟩
            · skip
              have hi : i < 256 := by omega
              refine dt_iconst dX12_mean_31 ?_
              refine dt_istore dX12_mean_32 (by decide) rfl ?_
              dsimp only [List.set]
              have lp34 : ∀ (fu : Nat) (q : Nat) (σ2 : dt_Mem), (wd.2.length : Int) - q < (fu : Int) → (q ≤ wd.2.length) → (∀ b, b ≠ 48 → σ2 b = σ b) → (mP σ2 48 256 (fun k => (∃ s, s < i ∧ P s ∧ ∃ r ∈ wd.2, s ||| r = k) ∨ (P i ∧ ∃ r ∈ wd.2.take q, i ||| r = k))) →  dt_V mX12_mean (dt_rm 1 0 0) (dt_MC (fun v sh2 σ2 => v = none ∧ sh2 = dt_SH ++ ex ∧ (∀ b, b ≠ 47 → b ≠ 48 → σ2 b = σ b) ∧ mP σ2 47 256 (xSay P wd.2)) 0 0) 0 0 34 [some (dt_R 40), some (dt_I (t : Int)), some (dt_I (w : Int)), some (dt_I (i : Int)), some (dt_I (q : Int))] [] (dt_SH ++ ex) σ2 := by
                intro fu
                induction fu with
                | zero =>
                  intro q σ2 hm lq lf lm
                  exfalso
                  omega
                | succ fu ih =>
                  intro q σ2 hm lq lf lm
                  refine dt_wfV fun hwf => ?_
                  refine dt_iload dX12_mean_34 rfl ?_
                  refine dt_aloadn dX12_mean_36 rfl rfl ?_
                  refine dt_iloadn dX12_mean_37 rfl rfl ?_
                  refine dt_iloadn dX12_mean_38 rfl rfl ?_
                  refine dt_xV dX12_mean_39 pc_X12_197 rfl (s_X12_readings (hX.kept (lf 44 (by decide))) hw) rfl rfl ⟨by decide, by decide⟩ rfl rfl (Nat.le_of_ble_eq_true rfl) ⟨by decide, by decide⟩ (dt_k3 ?_)
                  refine dt_cm_ge (tgt := 76) dX12_mean_42 (by decide) (by first | assumption | exact hwf _ _ | exact dt_b32 _ | omega | exact ⟨by omega, by omega⟩ | decide | exact ⟨by simp (disch := omega) only [dt_up_s, dt_up_k, dt_up_n]; omega, by simp (disch := omega) only [dt_up_s, dt_up_k, dt_up_n]; omega⟩) (by first | assumption | exact hwf _ _ | exact dt_b32 _ | omega | exact ⟨by omega, by omega⟩ | decide | exact ⟨by simp (disch := omega) only [dt_up_s, dt_up_k, dt_up_n]; omega, by simp (disch := omega) only [dt_up_s, dt_up_k, dt_up_n]; omega⟩) (fun c4 => ?_) (fun c4 => ?_)
                  · skip
                    have lm2 : mP σ2 48 256 (fun k => ∃ s, s < i + 1 ∧ P s ∧ ∃ r ∈ wd.2, s ||| r = k) := lm.ext (fun k _ => by
                      rw [show q = wd.2.length by omega, List.take_length]
                      constructor
                      · rintro (⟨s, h1, h2⟩ | ⟨h1, h2⟩)
                        · exact ⟨s, by omega, h2⟩
                        · exact ⟨i, by omega, h1, h2⟩
                      · rintro ⟨s, h1, h2, h3⟩
                        by_cases e : s = i
                        · subst e; exact Or.inr ⟨h2, h3⟩
                        · exact Or.inl ⟨s, by omega, h2, h3⟩)
                    refine dt_iinc dX12_mean_76 rfl (by decide) rfl ?_
                    dsimp only [List.set]
                    refine dt_goto (tgt := 24) dX12_mean_79 (by decide) ?_
                    exact dt_lb (ih0 (i + 1) σ2 (by omega) (by omega) lf lm2) ⟨rfl, rfl, rfl, rfl, trivial⟩
                  · skip
                    obtain ⟨r, hq⟩ := dt_lg (l := wd.2) (i := q) (by omega)
                    have hr8 := (k6 q r hq).2.2.1
                    refine dt_aloadn dX12_mean_45 rfl rfl ?_
                    refine dt_getR dX12_mean_46 pg_X12_28_12 rfl rfl ?_
                    refine dt_iloadn dX12_mean_49 rfl rfl ?_
                    refine dt_zald dX12_mean_50 rfl (by first | omega | (simp (disch := omega) only [dt_up_s, dt_up_k, dt_up_n]; omega)) (by first | omega | (simp (disch := omega) only [dt_up_s, dt_up_k, dt_up_n]; omega)) (by decide) ?_
                    rw [Int.toNat_natCast, show σ2 47 i = dt_b (P i) by rw [lf 47 (by decide)]; exact hM i hi]
                    refine dt_if_eq (tgt := 76) dX12_mean_51 (by decide) (by first | assumption | exact hwf _ _ | exact dt_b32 _ | omega | exact ⟨by omega, by omega⟩ | decide | exact ⟨by simp (disch := omega) only [dt_up_s, dt_up_k, dt_up_n]; omega, by simp (disch := omega) only [dt_up_s, dt_up_k, dt_up_n]; omega⟩) (fun c5 => ?_) (fun c5 => ?_)
                    · skip
                      try simp only [dt_b0, dt_b1, Decidable.not_not, Classical.not_not] at c5
                      have hnp : ¬ P i := by assumption
                      have lm2 : mP σ2 48 256 (fun k => ∃ s, s < i + 1 ∧ P s ∧ ∃ r ∈ wd.2, s ||| r = k) := lm.ext (fun k _ => by
                        constructor
                        · rintro (⟨s, h1, h2⟩ | ⟨h1, h2⟩)
                          · exact ⟨s, by omega, h2⟩
                          · exact absurd h1 hnp
                        · rintro ⟨s, h1, h2, h3⟩
                          by_cases e : s = i
                          · subst e; exact absurd h2 hnp
                          · exact Or.inl ⟨s, by omega, h2, h3⟩)
                      refine dt_iinc dX12_mean_76 rfl (by decide) rfl ?_
                      dsimp only [List.set]
                      refine dt_goto (tgt := 24) dX12_mean_79 (by decide) ?_
                      exact dt_lb (ih0 (i + 1) σ2 (by omega) (by omega) lf lm2) ⟨rfl, rfl, rfl, rfl, trivial⟩
                    · skip
                      try simp only [dt_b0, dt_b1, Decidable.not_not, Classical.not_not] at c5
                      have hyp : P i := by assumption
                      refine dt_aloadn dX12_mean_54 rfl rfl ?_
                      refine dt_getR dX12_mean_55 pg_X12_32_12 rfl rfl ?_
                      refine dt_iloadn dX12_mean_58 rfl rfl ?_
                      refine dt_aloadn dX12_mean_59 rfl rfl ?_
                      refine dt_iloadn dX12_mean_60 rfl rfl ?_
                      refine dt_iloadn dX12_mean_61 rfl rfl ?_
                      refine dt_iload dX12_mean_62 rfl ?_
                      refine dt_xV dX12_mean_64 pc_X12_200 rfl (s_X12_reading (hX.kept (lf 44 (by decide))) hw hq) rfl rfl ⟨by decide, by decide⟩ rfl rfl (Nat.le_of_ble_eq_true rfl) ⟨by decide, by decide⟩ (dt_k3 ?_)
                      refine dt_ior dX12_mean_67 ?_
                      rw [dj_or_nn (by omega) (by omega)]
                      have hor : i ||| r < 256 := Nat.or_lt_two_pow (n := 8) hi hr8
                      refine dt_iconst dX12_mean_68 ?_
                      refine dt_zast dX12_mean_69 rfl (by first | omega | (simp (disch := omega) only [dt_up_s, dt_up_k, dt_up_n]; omega)) (by first | omega | (simp (disch := omega) only [dt_up_s, dt_up_k, dt_up_n]; omega)) (by decide) (by first | exact Or.inl rfl | exact Or.inr rfl | assumption | omega) ?_
                      rw [Int.toNat_natCast]
                      refine dt_iinc dX12_mean_70 rfl (by decide) rfl ?_
                      dsimp only [List.set]
                      refine dt_goto (tgt := 34) dX12_mean_73 (by decide) ?_
                      have lm2 := (lm.mark (j := i ||| r)).ext (Q := fun k => (∃ s, s < i ∧ P s ∧ ∃ r ∈ wd.2, s ||| r = k) ∨ (P i ∧ ∃ r ∈ wd.2.take (q + 1), i ||| r = k)) (fun k _ => by
                        rw [List.take_add_one, hq]
                        constructor
                        · rintro ((z | ⟨h1, r', h2, h3⟩) | z)
                          · exact Or.inl z
                          · exact Or.inr ⟨h1, r', List.mem_append_left _ h2, h3⟩
                          · exact Or.inr ⟨hyp, r, List.mem_append_right _ List.mem_cons_self, z.symm⟩
                        · rintro (z | ⟨h1, r', h2, h3⟩)
                          · exact Or.inl (Or.inl z)
                          · rcases List.mem_append.mp h2 with g | g
                            · exact Or.inl (Or.inr ⟨h1, r', g, h3⟩)
                            · obtain rfl := List.mem_singleton.mp g
                              exact Or.inr h3.symm)
                      exact dt_lb (ih (q + 1) _ (by omega) (by omega) (fun b h1 => (dt_up_o h1).trans (lf b h1)) lm2) ⟨rfl, rfl, rfl, rfl, rfl, trivial⟩
              exact dt_lb (lp34 5 0 σ1 (by omega) (by omega) kf (km.ext (fun k _ => ⟨Or.inl, fun z => z.elim id (fun ⟨_, r, z, _⟩ => by simp at z)⟩))) ⟨rfl, rfl, rfl, rfl, rfl, trivial⟩
        exact dt_lb (lp24 300 0 σ1 (by omega) (by omega) jf ((show i = 256 by omega) ▸ jm |>.ext (fun k _ => ⟨fun z => z.elim, fun ⟨s, z, _⟩ => absurd z (Nat.not_lt_zero s)⟩))) ⟨rfl, rfl, rfl, rfl, trivial⟩
      · skip
        refine dt_aloadn dX12_mean_9 rfl rfl ?_
        refine dt_getR dX12_mean_10 pg_X12_32_12 rfl rfl ?_
        refine dt_iloadn dX12_mean_13 rfl rfl ?_
        refine dt_iconst dX12_mean_14 ?_
        refine dt_zast dX12_mean_15 rfl (by first | omega | (simp (disch := omega) only [dt_up_s, dt_up_k, dt_up_n]; omega)) (by first | omega | (simp (disch := omega) only [dt_up_s, dt_up_k, dt_up_n]; omega)) (by decide) (by first | exact Or.inl rfl | exact Or.inr rfl | assumption | omega) ?_
        refine dt_iinc dX12_mean_16 rfl (by decide) rfl ?_
        dsimp only [List.set]
        refine dt_goto (tgt := 2) dX12_mean_19 (by decide) ?_
        exact dt_lb (ih (i + 1) _ (by omega) (by omega) (fun b hb => (dt_up_o hb).trans (jf b hb)) (jm.put (dt_bF id).symm)) ⟨rfl, rfl, rfl, rfl, trivial⟩
  exact dt_lb (lp2 300 0 σ (by omega) (by omega) (fun _ _ => rfl) (mP.z _ _ _)) ⟨rfl, rfl, rfl, rfl, trivial⟩
theorem cInv.sy {ex : List dt_Shp} {σ σ' : dt_Mem} {A : dS} (h : cInv ex σ A) (e : ∀ b, (b < 32 ∨ 38 < b) → σ' b = σ b) : cInv ex σ' A := by
  obtain ⟨h1, h2, h3, h4, h5, h6, h7, h8⟩ := h
  exact ⟨h1.kept (e 2 (by omega)) (e 3 (by omega)) (e 4 (by omega)), h2.kept (by rw [e 5 (by omega)]) (e 6 (by omega)), h3.kept (fun b _ _ => e b (by omega)), h4.kept (fun b _ _ => e b (by omega)), h5.kept (fun b _ _ => e b (by omega)), by rw [e 0 (by omega)]; exact h6, by rw [e 0 (by omega)]; exact h7, h8.kept (by rw [e 0 (by omega)]) (fun b hb => e b (by omega))⟩
theorem rInv.sy {σ σ' : dt_Mem} {A : dS} (h : rInv σ A) (e40 : ∀ k, k = 1 ∨ k = 7 ∨ k = 9 ∨ k = 10 ∨ k = 29 → σ' 40 k = σ 40 k) (e : ∀ b, 41 ≤ b → (b < 47 ∨ 51 < b) → b < 55 → σ' b = σ b) : rInv σ' A := by
  obtain ⟨h1, h2, h3, h4, h5, h6, h7, h8⟩ := h
  refine ⟨h1.kept (e 41 (by omega) (by omega) (by omega)) (e 42 (by omega) (by omega) (by omega)) (e 43 (by omega) (by omega) (by omega)), ⟨by rw [e40 9 (by decide)]; exact h2.1, by rw [e 46 (by omega) (by omega) (by omega)]; exact h2.2⟩, ⟨h3.1.kept (e 44 (by omega) (by omega) (by omega)), by rw [e40 7 (by decide)]; exact h3.2⟩, ⟨fun g => (h4.1 g).kept (e 53 (by omega) (by omega) (by omega)), by rw [e 52 (by omega) (by omega) (by omega)]; exact h4.2⟩, ⟨fun g => (h5.1 g).kept (e 53 (by omega) (by omega) (by omega)), by rw [e 52 (by omega) (by omega) (by omega)]; exact h5.2⟩, by rw [e40 10 (by decide)]; exact h6, by rw [e40 1 (by decide)]; exact h7, ⟨by rw [e40 29 (by decide)]; exact h8.1, h8.2.1, by rw [e 54 (by omega) (by omega) (by omega)]; exact h8.2.2⟩⟩
theorem sub_at {l : List Int} {i n j : Nat} {x : Int} (h : l[i + j]? = some x) (hj : j < n) : ((l.drop i).take n)[j]? = some x := by
  rw [List.getElem?_take_of_lt hj, List.getElem?_drop]
  exact h
theorem sub_len {l : List Int} {i n : Nat} (h : i + n ≤ l.length) : ((l.drop i).take n).length = n := by
  rw [List.length_take, List.length_drop]
  omega
theorem hRow_it {σ : dt_Mem} {a b c r : Nat} {q : Nat × List Int} (h : hRow σ a b c r (some q)) : σ a r = q.1 ∧ q.1 ≤ 2 ∧ σ b r = q.2.length ∧ q.2.length ≤ 40 ∧ ∀ (i : Nat) (x : Int), q.2[i]? = some x → σ c (r * 40 + i) = x := h
noncomputable def oMeans (A : dS) (day r i n k : Int) : Int × dS := if (sN A).1 = [] then (-1000002, A) else if ¬ ((0 ≤ day ∧ day ≤ 1000000) ∧ (0 ≤ r ∧ r < 8) ∧ (0 ≤ n ∧ n ≤ 6) ∧ -1 ≤ k) then (-1000001, A) else match sR A r.toNat with
  | none => (-1000011, sSt A 1)
  | some q => if ¬ (0 ≤ i ∧ i + n ≤ q.2.length) then (-1000012, sSt A 2) else match xSd (sN A) (day % ((sN A).1.length : Int)) ((q.2.drop i.toNat).take n.toNat) with
    | none => (-1000001, A)
    | some P => (oM P k, sSt A 0)
theorem s_X11_isSaid {ex : List dt_Shp} {σ : dt_Mem} {X : dX} {t i n : Nat} {r : Int} {q : Nat × List Int} (hX : cPort σ 7 X) (hok : dX_ok X) (hr1 : 0 ≤ r) (hr2 : r < 8) (hrow : hRow σ 2 3 4 r.toNat (some q)) (hin : i + n ≤ q.2.length) (ht : t < 7) : dt_Sp mX11_isSaid 4 0 0 [dt_R 0, dt_I (t : Int), dt_I r, dt_I (i : Int), dt_I (n : Int)] (dt_SH ++ ex) σ (fun v sh2 σ2 => v = some (dt_I (dt_b (xSd X t ((q.2.drop i).take n) ≠ none))) ∧ sh2 = dt_SH ++ ex ∧ (∀ b, b ≠ 32 → b ≠ 33 → σ2 b = σ b) ∧ ∀ P, xSd X t ((q.2.drop i).take n) = some P → mP σ2 32 256 P) := by
  refine dt_Sp_of (by decide) (Nat.le_of_ble_eq_true rfl) ?_
  refine dt_wfV fun hwf => ?_
  obtain ⟨q1, q2, q3, q4, q5⟩ := hRow_it hrow
  have sl := sub_len hin
  show dt_V _ _ _ 0 0 0 [some (dt_R 0), some (dt_I (t : Int)), some (dt_I r), some (dt_I (i : Int)), some (dt_I (n : Int)), none, none] [] _ _
  refine dt_aloadn dX11_isSaid_0 rfl rfl ?_
  refine dt_getR dX11_isSaid_1 pg_X11_44_11 rfl rfl ?_
  refine dt_xV dX11_isSaid_4 pc_X11_270 rfl s_X8_begin rfl rfl ⟨by decide, by decide⟩ rfl rfl (Nat.le_of_ble_eq_true rfl) ⟨by decide, by decide⟩ ?_
  intro v1 sh1 σ1 hq1
  obtain ⟨rfl, hs1, hf1, hM1⟩ := hq1
  obtain rfl := hs1.symm
  refine dt_iloadn dX11_isSaid_7 rfl rfl ?_
  refine dt_istore dX11_isSaid_8 (by decide) rfl ?_
  dsimp only [List.set]
  have lp10 : ∀ (fu : Nat) (j : Nat) (P : Nat → Prop) (σ1 : dt_Mem), (n : Int) - j < (fu : Int) → (j ≤ n) → (∀ b, b ≠ 32 → b ≠ 33 → σ1 b = σ b) → (mP σ1 32 256 P) → (xSd X t (((q.2.drop i).take n).take j) = some P) →  dt_V mX11_isSaid (dt_rm 4 0 0) (dt_MC (fun v sh2 σ2 => v = some (dt_I (dt_b (xSd X t ((q.2.drop i).take n) ≠ none))) ∧ sh2 = dt_SH ++ ex ∧ (∀ b, b ≠ 32 → b ≠ 33 → σ2 b = σ b) ∧ ∀ P, xSd X t ((q.2.drop i).take n) = some P → mP σ2 32 256 P) 0 0) 0 0 10 [some (dt_R 0), some (dt_I (t : Int)), some (dt_I r), some (dt_I (i : Int)), some (dt_I (n : Int)), some (dt_I ((i : Int) + j)), none] [] (dt_SH ++ ex) σ1 := by
    intro fu
    induction fu with
    | zero =>
      intro j P σ1 hm jl jf jm jp
      exfalso
      omega
    | succ fu ih =>
      intro j P σ1 hm jl jf jm jp
      refine dt_wfV fun hwf => ?_
      have hX1 : cPort σ1 7 X := hX.kept (fun b _ _ => jf b (by omega) (by omega))
      have e3 : σ1 3 r.toNat = q.2.length := by rw [jf 3 (by decide) (by decide)]; exact q3
      refine dt_iload dX11_isSaid_10 rfl ?_
      refine dt_iloadn dX11_isSaid_12 rfl rfl ?_
      refine dt_iload dX11_isSaid_13 rfl ?_
      refine dt_iadd dX11_isSaid_15 ?_
      refine dt_cm_ge (tgt := 62) dX11_isSaid_16 (by decide) (by first | assumption | exact hwf _ _ | exact dt_b32 _ | omega | exact ⟨by omega, by omega⟩ | decide | exact ⟨by simp (disch := omega) only [dt_up_s, dt_up_k, dt_up_n]; omega, by simp (disch := omega) only [dt_up_s, dt_up_k, dt_up_n]; omega⟩) (by first | assumption | exact hwf _ _ | exact dt_b32 _ | omega | exact ⟨by omega, by omega⟩ | decide | exact ⟨by simp (disch := omega) only [dt_up_s, dt_up_k, dt_up_n]; omega, by simp (disch := omega) only [dt_up_s, dt_up_k, dt_up_n]; omega⟩) (fun c1 => ?_) (fun c1 => ?_)
      · skip
        have hend : xSd X t ((q.2.drop i).take n) = some P := by rw [← xSd_e (show ((q.2.drop i).take n).length ≤ j by omega)]; exact jp
        refine dt_iconst dX11_isSaid_62 ?_
        refine dt_zret dX11_isSaid_63 rfl (by decide) (by decide) (by first | exact Or.inl rfl | exact Or.inr rfl | assumption | omega) ?_
        rw [hend]
        exact ⟨by rw [dt_bT (Option.some_ne_none P)], rfl, jf, fun P2 h => by obtain rfl := Option.some.inj h; exact jm⟩
      · skip
        obtain ⟨x, hx⟩ := dt_lg (l := q.2) (i := i + j) (by omega)
        have hsub : ((q.2.drop i).take n)[j]? = some x := sub_at hx (by omega)
        refine dt_aloadn dX11_isSaid_19 rfl rfl ?_
        refine dt_getR dX11_isSaid_20 pg_X11_10_11 rfl rfl ?_
        refine dt_iloadn dX11_isSaid_23 rfl rfl ?_
        refine dt_iload dX11_isSaid_24 rfl ?_
        refine dt_xV dX11_isSaid_26 pc_X11_204 rfl (s_X7_item hr1 hr2 ⟨by omega, by omega, by omega, by omega⟩ (by omega)) rfl rfl ⟨by decide, by decide⟩ rfl rfl (Nat.le_of_ble_eq_true rfl) ⟨by decide, by decide⟩ (dt_k3 ?_)
        rw [show σ1 4 (r * 40 + ((i : Int) + (j : Int))).toNat = x by rw [jf 4 (by decide) (by decide), show (r * 40 + ((i : Int) + (j : Int))).toNat = r.toNat * 40 + (i + j) by omega]; exact q5 (i + j) x hx]
        have hx32 : dt_in32 x := by have := hwf 4 (r.toNat * 40 + (i + j)); rw [jf 4 (by decide) (by decide), q5 (i + j) x hx] at this; exact this
        refine dt_istore dX11_isSaid_29 (by decide) rfl ?_
        dsimp only [List.set]
        refine dt_aloadn dX11_isSaid_31 rfl rfl ?_
        refine dt_getR dX11_isSaid_32 pg_X11_26_11 rfl rfl ?_
        refine dt_iloadn dX11_isSaid_35 rfl rfl ?_
        refine dt_iload dX11_isSaid_36 rfl ?_
        refine dt_xV dX11_isSaid_38 pc_X11_145 dt_p7.1 (s_X6_hasWord dt_p7 (by first | assumption | exact hwf _ _ | exact dt_b32 _ | omega | exact ⟨by omega, by omega⟩ | decide | exact ⟨by simp (disch := omega) only [dt_up_s, dt_up_k, dt_up_n]; omega, by simp (disch := omega) only [dt_up_s, dt_up_k, dt_up_n]; omega⟩) (by first | assumption | exact hwf _ _ | exact dt_b32 _ | omega | exact ⟨by omega, by omega⟩ | decide | exact ⟨by simp (disch := omega) only [dt_up_s, dt_up_k, dt_up_n]; omega, by simp (disch := omega) only [dt_up_s, dt_up_k, dt_up_n]; omega⟩)) rfl rfl ⟨by decide, by decide⟩ rfl rfl (Nat.le_of_ble_eq_true rfl) ⟨by decide, by decide⟩ (dt_k3 ?_)
        refine dt_if_ne (tgt := 46) dX11_isSaid_41 (by decide) (by first | assumption | exact hwf _ _ | exact dt_b32 _ | omega | exact ⟨by omega, by omega⟩ | decide | exact ⟨by simp (disch := omega) only [dt_up_s, dt_up_k, dt_up_n]; omega, by simp (disch := omega) only [dt_up_s, dt_up_k, dt_up_n]; omega⟩) (fun c2 => ?_) (fun c2 => ?_)
        · skip
          try simp only [dt_b0, dt_b1, Decidable.not_not, Classical.not_not] at c2
          obtain ⟨t2, w, wd, et, rfl, hw⟩ := xAt_ne ((hX1.at t x).mp (by assumption))
          obtain rfl : t = t2 := by omega
          have hwk := (hok.wd hw).2.2.2
          refine dt_aloadn dX11_isSaid_46 rfl rfl ?_
          refine dt_getR dX11_isSaid_47 pg_X11_44_11 rfl rfl ?_
          refine dt_iloadn dX11_isSaid_50 rfl rfl ?_
          refine dt_iload dX11_isSaid_51 rfl ?_
          refine dt_xV dX11_isSaid_53 pc_X11_273 rfl (s_X8_say hX1 hw (fun r hr => (hwk.2.2.2.2.2 r hr).2) jm) rfl rfl ⟨by decide, by decide⟩ rfl rfl (Nat.le_of_ble_eq_true rfl) ⟨by decide, by decide⟩ ?_
          intro vs shs σs hqs
          obtain ⟨rfl, hss, hfs, hMs⟩ := hqs
          obtain rfl := hss.symm
          refine dt_iinc dX11_isSaid_56 rfl (by decide) rfl ?_
          dsimp only [List.set]
          refine dt_goto (tgt := 10) dX11_isSaid_59 (by decide) ?_
          exact dt_lb (ih (j + 1) (xSay P wd.2) σs (by omega) (by omega) (fun b h1 h2 => (hfs b h1 h2).trans (jf b h1 h2)) hMs (by rw [xSd_s hsub, jp]; exact xSd1_y (xAt_of hw))) ⟨rfl, rfl, rfl, rfl, rfl, (dt_ie (by omega)), trivial⟩
        · skip
          try simp only [dt_b0, dt_b1, Decidable.not_not, Classical.not_not] at c2
          have hno : xAt X t x = none := hX1.no (by assumption)
          have hend : xSd X t ((q.2.drop i).take n) = none := xSd_no hsub hno
          refine dt_iconst dX11_isSaid_44 ?_
          refine dt_zret dX11_isSaid_45 rfl (by decide) (by decide) (by first | exact Or.inl rfl | exact Or.inr rfl | assumption | omega) ?_
          rw [hend]
          exact ⟨by rw [dt_bF (fun z => z rfl)], rfl, jf, fun P h => by cases h⟩
  exact dt_lb (lp10 50 0 xZ σ1 (by omega) (by omega) (fun b h1 _ => hf1 b h1) hM1 rfl) ⟨rfl, rfl, rfl, rfl, rfl, (dt_ie (by show (i : Int) = (i : Int) + ((0 : Nat) : Int); omega)), trivial⟩
theorem s_X11_means {ex : List dt_Shp} {σ : dt_Mem} {A : dS} {day r i n k : Int} (hI : cInv ex σ A) (h_day : dt_in32 day) (h_r : dt_in32 r) (h_i : dt_in32 i) (h_n : dt_in32 n) (h_k : dt_in32 k) : dt_Sp mX11_means 5 0 0 [dt_R 0, dt_I day, dt_I r, dt_I i, dt_I n, dt_I k] (dt_SH ++ ex) σ (fun v sh2 σ2 => v = some (dt_I (oMeans A day r i n k).1) ∧ sh2 = dt_SH ++ ex ∧ cEnd ex σ σ2 (oMeans A day r i n k).2) := by
  refine dt_Sp_of (by decide) (Nat.le_of_ble_eq_true rfl) ?_
  refine dt_wfV fun hwf => ?_
  have hc := hI.2.2.1.1
  have hok := hI.2.2.1.2.1
  have e5 := hc.t
  have e6 := hc.p
  have e7 := hc.1
  show dt_V _ _ _ 0 0 0 [some (dt_R 0), some (dt_I day), some (dt_I r), some (dt_I i), some (dt_I n), some (dt_I k)] [] _ _
  refine dt_aloadn dX11_means_0 rfl rfl ?_
  refine dt_xV dX11_means_1 pc_X11_132 rfl s_X11_hasNoPort rfl rfl ⟨by decide, by decide⟩ rfl rfl (Nat.le_of_ble_eq_true rfl) ⟨by decide, by decide⟩ (dt_k3 ?_)
  refine dt_if_eq (tgt := 10) dX11_means_4 (by decide) (by first | assumption | exact hwf _ _ | exact dt_b32 _ | omega | exact ⟨by omega, by omega⟩ | decide | exact ⟨by simp (disch := omega) only [dt_up_s, dt_up_k, dt_up_n]; omega, by simp (disch := omega) only [dt_up_s, dt_up_k, dt_up_n]; omega⟩) (fun c1 => ?_) (fun c1 => ?_)
  · skip
    try simp only [dt_b0, dt_b1, Decidable.not_not, Classical.not_not] at c1
    refine dt_iloadn dX11_means_10 rfl rfl ?_
    refine dt_xS dX11_means_11 pc_X11_169 (s_X11_isDay (by first | assumption | exact hwf _ _ | exact dt_b32 _ | omega | exact ⟨by omega, by omega⟩ | decide | exact ⟨by simp (disch := omega) only [dt_up_s, dt_up_k, dt_up_n]; omega, by simp (disch := omega) only [dt_up_s, dt_up_k, dt_up_n]; omega⟩)) rfl rfl ⟨by decide, by decide⟩ (Nat.le_of_ble_eq_true rfl) ⟨by decide, by decide⟩ (dt_k3 ?_)
    refine dt_if_eq (tgt := 41) dX11_means_14 (by decide) (by first | assumption | exact hwf _ _ | exact dt_b32 _ | omega | exact ⟨by omega, by omega⟩ | decide | exact ⟨by simp (disch := omega) only [dt_up_s, dt_up_k, dt_up_n]; omega, by simp (disch := omega) only [dt_up_s, dt_up_k, dt_up_n]; omega⟩) (fun c2 => ?_) (fun c2 => ?_)
    · skip
      try simp only [dt_b0, dt_b1, Decidable.not_not, Classical.not_not] at c2
      refine dt_ldc dX11_means_41 pk_X11_74 ?_
      refine dt_iret dX11_means_43 rfl (by decide) (by decide) ?_
      have e : oMeans A day r i n k = (-1000001, A) := by
        unfold oMeans
        rw [if_neg (fun q => by have := dt_nn.mpr q; omega), if_pos (by omega)]
      rw [e]
      exact ⟨rfl, rfl, hI, fun b _ _ => rfl⟩
    · skip
      try simp only [dt_b0, dt_b1, Decidable.not_not, Classical.not_not] at c2
      refine dt_iloadn dX11_means_17 rfl rfl ?_
      refine dt_xS dX11_means_18 pc_X11_66 (s_X7_isOne (by first | assumption | exact hwf _ _ | exact dt_b32 _ | omega | exact ⟨by omega, by omega⟩ | decide | exact ⟨by simp (disch := omega) only [dt_up_s, dt_up_k, dt_up_n]; omega, by simp (disch := omega) only [dt_up_s, dt_up_k, dt_up_n]; omega⟩)) rfl rfl ⟨by decide, by decide⟩ (Nat.le_of_ble_eq_true rfl) ⟨by decide, by decide⟩ (dt_k3 ?_)
      refine dt_if_eq (tgt := 41) dX11_means_21 (by decide) (by first | assumption | exact hwf _ _ | exact dt_b32 _ | omega | exact ⟨by omega, by omega⟩ | decide | exact ⟨by simp (disch := omega) only [dt_up_s, dt_up_k, dt_up_n]; omega, by simp (disch := omega) only [dt_up_s, dt_up_k, dt_up_n]; omega⟩) (fun c3 => ?_) (fun c3 => ?_)
      · skip
        try simp only [dt_b0, dt_b1, Decidable.not_not, Classical.not_not] at c3
        refine dt_ldc dX11_means_41 pk_X11_74 ?_
        refine dt_iret dX11_means_43 rfl (by decide) (by decide) ?_
        have e : oMeans A day r i n k = (-1000001, A) := by
          unfold oMeans
          rw [if_neg (fun q => by have := dt_nn.mpr q; omega), if_pos (by omega)]
        rw [e]
        exact ⟨rfl, rfl, hI, fun b _ _ => rfl⟩
      · skip
        try simp only [dt_b0, dt_b1, Decidable.not_not, Classical.not_not] at c3
        refine dt_iload dX11_means_24 rfl ?_
        refine dt_iconst dX11_means_26 ?_
        refine dt_bipush dX11_means_27 (by decide) ?_
        refine dt_xS dX11_means_29 pc_X11_70 (s_X11_isWithin (by first | assumption | exact hwf _ _ | exact dt_b32 _ | omega | exact ⟨by omega, by omega⟩ | decide | exact ⟨by simp (disch := omega) only [dt_up_s, dt_up_k, dt_up_n]; omega, by simp (disch := omega) only [dt_up_s, dt_up_k, dt_up_n]; omega⟩) (by first | assumption | exact hwf _ _ | exact dt_b32 _ | omega | exact ⟨by omega, by omega⟩ | decide | exact ⟨by simp (disch := omega) only [dt_up_s, dt_up_k, dt_up_n]; omega, by simp (disch := omega) only [dt_up_s, dt_up_k, dt_up_n]; omega⟩) (by first | assumption | exact hwf _ _ | exact dt_b32 _ | omega | exact ⟨by omega, by omega⟩ | decide | exact ⟨by simp (disch := omega) only [dt_up_s, dt_up_k, dt_up_n]; omega, by simp (disch := omega) only [dt_up_s, dt_up_k, dt_up_n]; omega⟩)) rfl rfl ⟨by decide, by decide⟩ (Nat.le_of_ble_eq_true rfl) ⟨by decide, by decide⟩ (dt_k3 ?_)
        refine dt_if_eq (tgt := 41) dX11_means_32 (by decide) (by first | assumption | exact hwf _ _ | exact dt_b32 _ | omega | exact ⟨by omega, by omega⟩ | decide | exact ⟨by simp (disch := omega) only [dt_up_s, dt_up_k, dt_up_n]; omega, by simp (disch := omega) only [dt_up_s, dt_up_k, dt_up_n]; omega⟩) (fun c4 => ?_) (fun c4 => ?_)
        · skip
          try simp only [dt_b0, dt_b1, Decidable.not_not, Classical.not_not] at c4
          refine dt_ldc dX11_means_41 pk_X11_74 ?_
          refine dt_iret dX11_means_43 rfl (by decide) (by decide) ?_
          have e : oMeans A day r i n k = (-1000001, A) := by
            unfold oMeans
            rw [if_neg (fun q => by have := dt_nn.mpr q; omega), if_pos (by omega)]
          rw [e]
          exact ⟨rfl, rfl, hI, fun b _ _ => rfl⟩
        · skip
          try simp only [dt_b0, dt_b1, Decidable.not_not, Classical.not_not] at c4
          refine dt_iload dX11_means_35 rfl ?_
          refine dt_iconst dX11_means_37 ?_
          refine dt_cm_ge (tgt := 44) dX11_means_38 (by decide) (by first | assumption | exact hwf _ _ | exact dt_b32 _ | omega | exact ⟨by omega, by omega⟩ | decide | exact ⟨by simp (disch := omega) only [dt_up_s, dt_up_k, dt_up_n]; omega, by simp (disch := omega) only [dt_up_s, dt_up_k, dt_up_n]; omega⟩) (by first | assumption | exact hwf _ _ | exact dt_b32 _ | omega | exact ⟨by omega, by omega⟩ | decide | exact ⟨by simp (disch := omega) only [dt_up_s, dt_up_k, dt_up_n]; omega, by simp (disch := omega) only [dt_up_s, dt_up_k, dt_up_n]; omega⟩) (fun c5 => ?_) (fun c5 => ?_)
          · skip
            refine dt_aloadn dX11_means_44 rfl rfl ?_
            refine dt_getR dX11_means_45 pg_X11_10_11 rfl rfl ?_
            refine dt_iloadn dX11_means_48 rfl rfl ?_
            refine dt_xV dX11_means_49 pc_X11_86 rfl (s_X7_isMissing (by first | assumption | exact hwf _ _ | exact dt_b32 _ | omega | exact ⟨by omega, by omega⟩ | decide | exact ⟨by simp (disch := omega) only [dt_up_s, dt_up_k, dt_up_n]; omega, by simp (disch := omega) only [dt_up_s, dt_up_k, dt_up_n]; omega⟩) (by first | assumption | exact hwf _ _ | exact dt_b32 _ | omega | exact ⟨by omega, by omega⟩ | decide | exact ⟨by simp (disch := omega) only [dt_up_s, dt_up_k, dt_up_n]; omega, by simp (disch := omega) only [dt_up_s, dt_up_k, dt_up_n]; omega⟩)) rfl rfl ⟨by decide, by decide⟩ rfl rfl (Nat.le_of_ble_eq_true rfl) ⟨by decide, by decide⟩ (dt_k3 ?_)
            refine dt_if_eq (tgt := 61) dX11_means_52 (by decide) (by first | assumption | exact hwf _ _ | exact dt_b32 _ | omega | exact ⟨by omega, by omega⟩ | decide | exact ⟨by simp (disch := omega) only [dt_up_s, dt_up_k, dt_up_n]; omega, by simp (disch := omega) only [dt_up_s, dt_up_k, dt_up_n]; omega⟩) (fun c6 => ?_) (fun c6 => ?_)
            · skip
              try simp only [dt_b0, dt_b1, Decidable.not_not, Classical.not_not] at c6
              have hrr := hI.row (r := r.toNat) (by omega)
              obtain ⟨q, hq, q1, q2, q3, q4, q5⟩ := hrr.some (by assumption)
              refine dt_aloadn dX11_means_61 rfl rfl ?_
              refine dt_getR dX11_means_62 pg_X11_10_11 rfl rfl ?_
              refine dt_iloadn dX11_means_65 rfl rfl ?_
              refine dt_iloadn dX11_means_66 rfl rfl ?_
              refine dt_iload dX11_means_67 rfl ?_
              refine dt_xV dX11_means_69 pc_X11_89 rfl (s_X7_hasPlaces (by first | assumption | exact hwf _ _ | exact dt_b32 _ | omega | exact ⟨by omega, by omega⟩ | decide | exact ⟨by simp (disch := omega) only [dt_up_s, dt_up_k, dt_up_n]; omega, by simp (disch := omega) only [dt_up_s, dt_up_k, dt_up_n]; omega⟩) (by first | assumption | exact hwf _ _ | exact dt_b32 _ | omega | exact ⟨by omega, by omega⟩ | decide | exact ⟨by simp (disch := omega) only [dt_up_s, dt_up_k, dt_up_n]; omega, by simp (disch := omega) only [dt_up_s, dt_up_k, dt_up_n]; omega⟩) (by first | assumption | exact hwf _ _ | exact dt_b32 _ | omega | exact ⟨by omega, by omega⟩ | decide | exact ⟨by simp (disch := omega) only [dt_up_s, dt_up_k, dt_up_n]; omega, by simp (disch := omega) only [dt_up_s, dt_up_k, dt_up_n]; omega⟩) (by first | assumption | exact hwf _ _ | exact dt_b32 _ | omega | exact ⟨by omega, by omega⟩ | decide | exact ⟨by simp (disch := omega) only [dt_up_s, dt_up_k, dt_up_n]; omega, by simp (disch := omega) only [dt_up_s, dt_up_k, dt_up_n]; omega⟩)) rfl rfl ⟨by decide, by decide⟩ rfl rfl (Nat.le_of_ble_eq_true rfl) ⟨by decide, by decide⟩ (dt_k3 ?_)
              refine dt_if_ne (tgt := 81) dX11_means_72 (by decide) (by first | assumption | exact hwf _ _ | exact dt_b32 _ | omega | exact ⟨by omega, by omega⟩ | decide | exact ⟨by simp (disch := omega) only [dt_up_s, dt_up_k, dt_up_n]; omega, by simp (disch := omega) only [dt_up_s, dt_up_k, dt_up_n]; omega⟩) (fun c7 => ?_) (fun c7 => ?_)
              · skip
                try simp only [dt_b0, dt_b1, Decidable.not_not, Classical.not_not] at c7
                have hcp : cHP σ r i n := by assumption
                obtain ⟨p1, p2, p3, p4⟩ := id hcp
                obtain ⟨i, rfl⟩ : ∃ z : Nat, i = z := ⟨i.toNat, by omega⟩
                obtain ⟨n, rfl⟩ : ∃ z : Nat, n = z := ⟨n.toNat, by omega⟩
                rw [hq] at hrr
                refine dt_aloadn dX11_means_81 rfl rfl ?_
                refine dt_aloadn dX11_means_82 rfl rfl ?_
                refine dt_getR dX11_means_83 pg_X11_26_11 rfl rfl ?_
                refine dt_iloadn dX11_means_86 rfl rfl ?_
                refine dt_xV dX11_means_87 pc_X11_172 dt_p7.1 (s_X6_tongueOf dt_p7 (by omega) (by omega) (by omega)) rfl rfl ⟨by decide, by decide⟩ rfl rfl (Nat.le_of_ble_eq_true rfl) ⟨by decide, by decide⟩ (dt_k3 ?_)
                rw [e5]
                obtain ⟨t, ht⟩ : ∃ t : Nat, day % ((sN A).1.length : Int) = t := ⟨(day % ((sN A).1.length : Int)).toNat, by have := Int.emod_nonneg day (b := ((sN A).1.length : Int)) (by omega); omega⟩
                have ht7 : t < (sN A).1.length := by have := Int.emod_lt_of_pos day (b := ((sN A).1.length : Int)) (by omega); omega
                rw [ht]
                refine dt_iloadn dX11_means_90 rfl rfl ?_
                refine dt_iloadn dX11_means_91 rfl rfl ?_
                refine dt_iload dX11_means_92 rfl ?_
                refine dt_xV dX11_means_94 pc_X11_175 rfl (s_X11_isSaid hc hok (by omega) (by omega) hrr (by omega) (by omega)) rfl rfl ⟨by decide, by decide⟩ rfl rfl (Nat.le_of_ble_eq_true rfl) ⟨by decide, by decide⟩ ?_
                intro vs shs σs hqs
                obtain ⟨rfl, hss, hfs, hPs⟩ := hqs
                obtain rfl := hss.symm
                refine dt_if_ne (tgt := 103) dX11_means_97 (by decide) (by first | assumption | exact hwf _ _ | exact dt_b32 _ | omega | exact ⟨by omega, by omega⟩ | decide | exact ⟨by simp (disch := omega) only [dt_up_s, dt_up_k, dt_up_n]; omega, by simp (disch := omega) only [dt_up_s, dt_up_k, dt_up_n]; omega⟩) (fun c8 => ?_) (fun c8 => ?_)
                · skip
                  try simp only [dt_b0, dt_b1, Decidable.not_not, Classical.not_not] at c8
                  have hs : xSd (sN A) t ((q.2.drop i).take n) ≠ none := by assumption
                  obtain ⟨P, hP⟩ := Option.ne_none_iff_exists'.mp hs
                  have hMP := hPs P hP
                  refine dt_aloadn dX11_means_103 rfl rfl ?_
                  refine dt_aloadn dX11_means_104 rfl rfl ?_
                  refine dt_getR dX11_means_105 pg_X11_44_11 rfl rfl ?_
                  refine dt_iload dX11_means_108 rfl ?_
                  refine dt_xV dX11_means_110 pc_X11_179 rfl (s_X8_meaning hMP (by assumption)) rfl rfl ⟨by decide, by decide⟩ rfl rfl (Nat.le_of_ble_eq_true rfl) ⟨by decide, by decide⟩ (dt_k3 ?_)
                  refine dt_xV dX11_means_113 pc_X11_83 rfl s_X11_well rfl rfl ⟨by decide, by decide⟩ rfl rfl (Nat.le_of_ble_eq_true rfl) ⟨by decide, by decide⟩ (dt_k3 ?_)
                  refine dt_iret dX11_means_116 rfl (by decide) (by decide) ?_
                  have e : oMeans A day r ↑i ↑n k = (oM P k, sSt A 0) := by
                    unfold oMeans
                    rw [if_neg (fun q => by have := dt_nn.mpr q; omega), if_neg (by omega)]
                    simp only [hq]
                    rw [if_neg (by omega), ht, Int.toNat_natCast, Int.toNat_natCast, hP]
                  rw [e]
                  exact ⟨rfl, rfl, (hI.sy (fun b hb => hfs b (by omega) (by omega))).st 0, fun b h1 h2 => (dt_up_o (by omega)).trans (hfs b (by omega) (by omega))⟩
                · skip
                  try simp only [dt_b0, dt_b1, Decidable.not_not, Classical.not_not] at c8
                  have hs : xSd (sN A) t ((q.2.drop i).take n) = none := by first | assumption | exact Classical.not_not.mp (by assumption)
                  refine dt_ldc dX11_means_100 pk_X11_74 ?_
                  refine dt_iret dX11_means_102 rfl (by decide) (by decide) ?_
                  have e : oMeans A day r ↑i ↑n k = (-1000001, A) := by
                    unfold oMeans
                    rw [if_neg (fun q => by have := dt_nn.mpr q; omega), if_neg (by omega)]
                    simp only [hq]
                    rw [if_neg (by omega), ht, Int.toNat_natCast, Int.toNat_natCast, hs]
                  rw [e]
                  exact ⟨rfl, rfl, hI.sy (fun b hb => hfs b (by omega) (by omega)), fun b h1 h2 => hfs b (by omega) (by omega)⟩
              · skip
                try simp only [dt_b0, dt_b1, Decidable.not_not, Classical.not_not] at c7
                have hcp : ¬ cHP σ r i n := by assumption
                unfold cHP at hcp
                refine dt_aloadn dX11_means_75 rfl rfl ?_
                refine dt_iconst dX11_means_76 ?_
                refine dt_xV dX11_means_77 pc_X11_75 rfl (s_X11_found (by first | assumption | exact hwf _ _ | exact dt_b32 _ | omega | exact ⟨by omega, by omega⟩ | decide | exact ⟨by simp (disch := omega) only [dt_up_s, dt_up_k, dt_up_n]; omega, by simp (disch := omega) only [dt_up_s, dt_up_k, dt_up_n]; omega⟩)) rfl rfl ⟨by decide, by decide⟩ rfl rfl (Nat.le_of_ble_eq_true rfl) ⟨by decide, by decide⟩ (dt_k3 ?_)
                refine dt_iret dX11_means_80 rfl (by decide) (by decide) ?_
                have e : oMeans A day r i n k = (-1000012, sSt A 2) := by
                  unfold oMeans
                  rw [if_neg (fun q => by have := dt_nn.mpr q; omega), if_neg (by omega)]
                  simp only [hq]
                  rw [if_pos (by omega)]
                rw [e]
                exact ⟨rfl, rfl, hI.st 2, fun b _ _ => dt_up_o (by omega)⟩
            · skip
              try simp only [dt_b0, dt_b1, Decidable.not_not, Classical.not_not] at c6
              have hrr := hI.row (r := r.toNat) (by omega)
              have hq := hrr.none (by assumption)
              refine dt_aloadn dX11_means_55 rfl rfl ?_
              refine dt_iconst dX11_means_56 ?_
              refine dt_xV dX11_means_57 pc_X11_75 rfl (s_X11_found (by first | assumption | exact hwf _ _ | exact dt_b32 _ | omega | exact ⟨by omega, by omega⟩ | decide | exact ⟨by simp (disch := omega) only [dt_up_s, dt_up_k, dt_up_n]; omega, by simp (disch := omega) only [dt_up_s, dt_up_k, dt_up_n]; omega⟩)) rfl rfl ⟨by decide, by decide⟩ rfl rfl (Nat.le_of_ble_eq_true rfl) ⟨by decide, by decide⟩ (dt_k3 ?_)
              refine dt_iret dX11_means_60 rfl (by decide) (by decide) ?_
              have e : oMeans A day r i n k = (-1000011, sSt A 1) := by
                unfold oMeans
                rw [if_neg (fun q => by have := dt_nn.mpr q; omega), if_neg (by omega)]
                simp only [hq]
              rw [e]
              exact ⟨rfl, rfl, hI.st 1, fun b _ _ => dt_up_o (by omega)⟩
          · skip
            refine dt_ldc dX11_means_41 pk_X11_74 ?_
            refine dt_iret dX11_means_43 rfl (by decide) (by decide) ?_
            have e : oMeans A day r i n k = (-1000001, A) := by
              unfold oMeans
              rw [if_neg (fun q => by have := dt_nn.mpr q; omega), if_pos (by omega)]
            rw [e]
            exact ⟨rfl, rfl, hI, fun b _ _ => rfl⟩
  · skip
    try simp only [dt_b0, dt_b1, Decidable.not_not, Classical.not_not] at c1
    refine dt_ldc dX11_means_7 pk_X11_136 ?_
    refine dt_iret dX11_means_9 rfl (by decide) (by decide) ?_
    have e : oMeans A day r i n k = (-1000002, A) := by
      unfold oMeans
      rw [if_pos (dt_nn.mp (by omega))]
    rw [e]
    exact ⟨rfl, rfl, hI, fun b _ _ => rfl⟩
theorem s_X12_isDay {sh : List dt_Shp} {σ : dt_Mem} {x : Int} (h1 : dt_in32 x) : dt_Sp mX12_isDay 1 0 0 [dt_I x] sh σ (fun v sh2 σ2 => v = some (dt_I (dt_b (0 ≤ x ∧ x ≤ 1000000))) ∧ sh2 = sh ∧ σ2 = σ) := by
  refine dt_Sp_of (by decide) (Nat.le_of_ble_eq_true rfl) ?_
  refine dt_wfV fun hwf => ?_
  show dt_V _ _ _ 0 0 0 [some (dt_I x)] [] _ _
  refine dt_iloadn dX12_isDay_0 rfl rfl ?_
  refine dt_ui2l dX12_isDay_1 (by first | assumption | exact hwf _ _ | exact dt_b32 _ | omega | exact ⟨by omega, by omega⟩ | decide | exact ⟨by simp (disch := omega) only [dt_up_s, dt_up_k, dt_up_n]; omega, by simp (disch := omega) only [dt_up_s, dt_up_k, dt_up_n]; omega⟩) ?_
  refine dt_lconst (x := 0) dX12_isDay_2 (by decide) ?_
  refine dt_ldc2 dX12_isDay_3 pk_X12_221 ?_
  refine dt_xS dX12_isDay_6 pc_X12_63 (s_X12_in (by first | exact ⟨by omega, by omega⟩ | decide) (by first | exact ⟨by omega, by omega⟩ | decide) (by first | exact ⟨by omega, by omega⟩ | decide)) rfl rfl ⟨by decide, by decide⟩ (Nat.le_of_ble_eq_true rfl) ⟨by decide, by decide⟩ (dt_k3 ?_)
  refine dt_zret dX12_isDay_9 rfl (by decide) (by decide) (dt_b01 _) ?_
  exact ⟨rfl, rfl, rfl⟩
def lk (o : Option (Nat × List Int)) (i n : Int) : Int := match o with
  | none => 1
  | some q => if 0 ≤ i ∧ i + n ≤ q.2.length then 0 else 2
theorem lk_in (o : Option (Nat × List Int)) (i n : Int) : 0 ≤ lk o i n ∧ lk o i n ≤ 2 := by
  cases o with
  | none => exact ⟨(by decide : (0 : Int) ≤ 1), (by decide : (1 : Int) ≤ 2)⟩
  | some q =>
    show 0 ≤ (if _ then (0 : Int) else 2) ∧ (if _ then (0 : Int) else 2) ≤ 2
    split <;> decide
theorem s_X12_lack {ex : List dt_Shp} {σ : dt_Mem} {r i n : Int} {o : Option (Nat × List Int)} (h1 : 0 ≤ r) (h2 : r < 8) (h_i : dt_in32 i) (hn : 0 ≤ n ∧ n ≤ 6) (hrow : hRow σ 41 42 43 r.toNat o) : dt_Sp mX12_lack 0 0 0 [dt_R 40, dt_I r, dt_I i, dt_I n] (dt_SH ++ ex) σ (fun v sh2 σ2 => v = some (dt_I (lk o i n)) ∧ sh2 = dt_SH ++ ex ∧ σ2 = σ) := by
  refine dt_Sp_of (by decide) (Nat.le_of_ble_eq_true rfl) ?_
  refine dt_wfV fun hwf => ?_
  obtain ⟨i1, i2⟩ := id h_i
  obtain ⟨n1, n2⟩ := hn
  show dt_V _ _ _ 0 0 0 [some (dt_R 40), some (dt_I r), some (dt_I i), some (dt_I n)] [] _ _
  refine dt_aloadn dX12_lack_0 rfl rfl ?_
  refine dt_getR dX12_lack_1 pg_X12_7_12 rfl rfl ?_
  refine dt_iloadn dX12_lack_4 rfl rfl ?_
  refine dt_iald dX12_lack_5 rfl (by first | omega | (simp (disch := omega) only [dt_up_s, dt_up_k, dt_up_n]; omega)) (by first | omega | (simp (disch := omega) only [dt_up_s, dt_up_k, dt_up_n]; omega)) (by decide) ?_
  refine dt_if_ge (tgt := 13) dX12_lack_6 (by decide) (by first | assumption | exact hwf _ _ | exact dt_b32 _ | omega | exact ⟨by omega, by omega⟩ | decide | exact ⟨by simp (disch := omega) only [dt_up_s, dt_up_k, dt_up_n]; omega, by simp (disch := omega) only [dt_up_s, dt_up_k, dt_up_n]; omega⟩) (fun c1 => ?_) (fun c1 => ?_)
  · skip
    obtain ⟨q, rfl, q1, q2, q3, q4, q5⟩ := hrow.pos (by assumption)
    refine dt_iloadn dX12_lack_13 rfl rfl ?_
    refine dt_if_lt (tgt := 33) dX12_lack_14 (by decide) (by first | assumption | exact hwf _ _ | exact dt_b32 _ | omega | exact ⟨by omega, by omega⟩ | decide | exact ⟨by simp (disch := omega) only [dt_up_s, dt_up_k, dt_up_n]; omega, by simp (disch := omega) only [dt_up_s, dt_up_k, dt_up_n]; omega⟩) (fun c2 => ?_) (fun c2 => ?_)
    · skip
      refine dt_iconst dX12_lack_33 ?_
      refine dt_goto (tgt := 38) dX12_lack_34 (by decide) ?_
      refine dt_iret dX12_lack_38 rfl (by decide) (by decide) ?_
      refine ⟨?_, rfl, rfl⟩
      first | rfl | (rw [show lk (some q) i n = 0 from if_pos (by omega)]; done) | (rw [show lk (some q) i n = 2 from if_neg (by omega)]; done)
    · skip
      refine dt_iloadn dX12_lack_17 rfl rfl ?_
      refine dt_ui2l dX12_lack_18 (by first | assumption | exact hwf _ _ | exact dt_b32 _ | omega | exact ⟨by omega, by omega⟩ | decide | exact ⟨by simp (disch := omega) only [dt_up_s, dt_up_k, dt_up_n]; omega, by simp (disch := omega) only [dt_up_s, dt_up_k, dt_up_n]; omega⟩) ?_
      refine dt_iloadn dX12_lack_19 rfl rfl ?_
      refine dt_ui2l dX12_lack_20 (by first | assumption | exact hwf _ _ | exact dt_b32 _ | omega | exact ⟨by omega, by omega⟩ | decide | exact ⟨by simp (disch := omega) only [dt_up_s, dt_up_k, dt_up_n]; omega, by simp (disch := omega) only [dt_up_s, dt_up_k, dt_up_n]; omega⟩) ?_
      refine dt_ladd dX12_lack_21 ?_
      refine dt_aloadn dX12_lack_22 rfl rfl ?_
      refine dt_getR dX12_lack_23 pg_X12_13_12 rfl rfl ?_
      refine dt_iloadn dX12_lack_26 rfl rfl ?_
      refine dt_iald dX12_lack_27 rfl (by first | omega | (simp (disch := omega) only [dt_up_s, dt_up_k, dt_up_n]; omega)) (by first | omega | (simp (disch := omega) only [dt_up_s, dt_up_k, dt_up_n]; omega)) (by decide) ?_
      rw [q3]
      refine dt_ui2l dX12_lack_28 (by first | assumption | exact hwf _ _ | exact dt_b32 _ | omega | exact ⟨by omega, by omega⟩ | decide | exact ⟨by simp (disch := omega) only [dt_up_s, dt_up_k, dt_up_n]; omega, by simp (disch := omega) only [dt_up_s, dt_up_k, dt_up_n]; omega⟩) ?_
      refine dt_lcmp dX12_lack_29 (by first | assumption | exact ⟨by omega, by omega⟩ | decide) (by first | assumption | exact ⟨by omega, by omega⟩ | decide) ?_
      refine dt_if_le (tgt := 37) dX12_lack_30 (by decide) (dj_c32 _ _) (fun c3 => ?_) (fun c3 => ?_)
      · skip
        simp only [dj_cl, dj_cle, dj_cg, dj_cge, dj_ce] at c3
        refine dt_iconst dX12_lack_37 ?_
        refine dt_iret dX12_lack_38 rfl (by decide) (by decide) ?_
        refine ⟨?_, rfl, rfl⟩
        first | rfl | (rw [show lk (some q) i n = 0 from if_pos (by omega)]; done) | (rw [show lk (some q) i n = 2 from if_neg (by omega)]; done)
      · skip
        simp only [dj_cl, dj_cle, dj_cg, dj_cge, dj_ce] at c3
        refine dt_iconst dX12_lack_33 ?_
        refine dt_goto (tgt := 38) dX12_lack_34 (by decide) ?_
        refine dt_iret dX12_lack_38 rfl (by decide) (by decide) ?_
        refine ⟨?_, rfl, rfl⟩
        first | rfl | (rw [show lk (some q) i n = 0 from if_pos (by omega)]; done) | (rw [show lk (some q) i n = 2 from if_neg (by omega)]; done)
  · skip
    obtain rfl := hrow.neg (by omega)
    refine dt_iconst dX12_lack_9 ?_
    refine dt_goto (tgt := 38) dX12_lack_10 (by decide) ?_
    refine dt_iret dX12_lack_38 rfl (by decide) (by decide) ?_
    refine ⟨?_, rfl, rfl⟩
    first | rfl | (rw [show lk (some q) i n = 0 from if_pos (by omega)]; done) | (rw [show lk (some q) i n = 2 from if_neg (by omega)]; done)
theorem s_X12_means {ex : List dt_Shp} {σ : dt_Mem} {A : dS} {day r i n k : Int} (hI : rInv σ A) (h_day : dt_in32 day) (h_r : dt_in32 r) (h_i : dt_in32 i) (h_n : dt_in32 n) (h_k : dt_in32 k) (hok : dX_ok (sN A)) : dt_Sp mX12_means 3 0 0 [dt_R 40, dt_I day, dt_I r, dt_I i, dt_I n, dt_I k] (dt_SH ++ ex) σ (fun v sh2 σ2 => v = some (dt_I (oMeans A day r i n k).1) ∧ sh2 = dt_SH ++ ex ∧ rEnd σ σ2 (oMeans A day r i n k).2) := by
  refine dt_Sp_of (by decide) (Nat.le_of_ble_eq_true rfl) ?_
  refine dt_wfV fun hwf => ?_
  show dt_V _ _ _ 0 0 0 [some (dt_R 40), some (dt_I day), some (dt_I r), some (dt_I i), some (dt_I n), some (dt_I k), none, none, none] [] _ _
  refine dt_aloadn dX12_means_0 rfl rfl ?_
  refine dt_iconst dX12_means_1 ?_
  refine dt_wfV fun hwf => ?_
  refine dt_putI dX12_means_2 pw_X12_53_12 rfl rfl (by first | assumption | exact hwf _ _ | exact dt_b32 _ | omega | exact ⟨by omega, by omega⟩ | decide | exact ⟨by simp (disch := omega) only [dt_up_s, dt_up_k, dt_up_n]; omega, by simp (disch := omega) only [dt_up_s, dt_up_k, dt_up_n]; omega⟩) ?_
  obtain ⟨σa, ea⟩ : ∃ z, z = dt_up σ 40 0 0 := ⟨_, rfl⟩
  rw [← ea]
  have hA := hI.up40 0 0 (by decide)
  rw [← ea] at hA
  have fa : ∀ b, (b < 40 ∨ 55 ≤ b) → σa b = σ b := fun b hb => by rw [ea]; exact dt_up_o (by omega)
  clear ea
  refine dt_wfV fun hwf => ?_
  have hX := hA.X hok
  have e0 := hX.t
  have e2 := hX.2.1
  have e7 := hA.2.2.1.2
  refine dt_aloadn dX12_means_5 rfl rfl ?_
  refine dt_getI dX12_means_6 pg_X12_179_12 rfl rfl ?_
  refine dt_if_ne (tgt := 15) dX12_means_9 (by decide) (by first | assumption | exact hwf _ _ | exact dt_b32 _ | omega | exact ⟨by omega, by omega⟩ | decide | exact ⟨by simp (disch := omega) only [dt_up_s, dt_up_k, dt_up_n]; omega, by simp (disch := omega) only [dt_up_s, dt_up_k, dt_up_n]; omega⟩) (fun c1 => ?_) (fun c1 => ?_)
  · skip
    rw [e7] at c1
    have hn : ¬ (sN A).1 = [] := by simpa [dt_b0] using c1
    have hn0 : 0 < (sN A).1.length := Nat.pos_of_ne_zero (fun q => hn (dt_nn.mp q))
    refine dt_iloadn dX12_means_15 rfl rfl ?_
    refine dt_xS dX12_means_16 pc_X12_223 (s_X12_isDay (by first | assumption | exact hwf _ _ | exact dt_b32 _ | omega | exact ⟨by omega, by omega⟩ | decide | exact ⟨by simp (disch := omega) only [dt_up_s, dt_up_k, dt_up_n]; omega, by simp (disch := omega) only [dt_up_s, dt_up_k, dt_up_n]; omega⟩)) rfl rfl ⟨by decide, by decide⟩ (Nat.le_of_ble_eq_true rfl) ⟨by decide, by decide⟩ (dt_k3 ?_)
    refine dt_if_eq (tgt := 48) dX12_means_19 (by decide) (by first | assumption | exact hwf _ _ | exact dt_b32 _ | omega | exact ⟨by omega, by omega⟩ | decide | exact ⟨by simp (disch := omega) only [dt_up_s, dt_up_k, dt_up_n]; omega, by simp (disch := omega) only [dt_up_s, dt_up_k, dt_up_n]; omega⟩) (fun c2 => ?_) (fun c2 => ?_)
    · skip
      try simp only [dt_b0, dt_b1, Decidable.not_not, Classical.not_not] at c2
      refine dt_ldc dX12_means_48 pk_X12_73 ?_
      refine dt_iret dX12_means_50 rfl (by decide) (by decide) ?_
      have e : oMeans A day r i n k = (-1000001, A) := by
        unfold oMeans
        rw [if_neg hn, if_pos (by omega)]
      rw [e]
      exact ⟨rfl, rfl, hA, fa⟩
    · skip
      try simp only [dt_b0, dt_b1, Decidable.not_not, Classical.not_not] at c2
      refine dt_iloadn dX12_means_22 rfl rfl ?_
      refine dt_xS dX12_means_23 pc_X12_67 (s_X12_isRow (by first | assumption | exact hwf _ _ | exact dt_b32 _ | omega | exact ⟨by omega, by omega⟩ | decide | exact ⟨by simp (disch := omega) only [dt_up_s, dt_up_k, dt_up_n]; omega, by simp (disch := omega) only [dt_up_s, dt_up_k, dt_up_n]; omega⟩)) rfl rfl ⟨by decide, by decide⟩ (Nat.le_of_ble_eq_true rfl) ⟨by decide, by decide⟩ (dt_k3 ?_)
      refine dt_if_eq (tgt := 48) dX12_means_26 (by decide) (by first | assumption | exact hwf _ _ | exact dt_b32 _ | omega | exact ⟨by omega, by omega⟩ | decide | exact ⟨by simp (disch := omega) only [dt_up_s, dt_up_k, dt_up_n]; omega, by simp (disch := omega) only [dt_up_s, dt_up_k, dt_up_n]; omega⟩) (fun c3 => ?_) (fun c3 => ?_)
      · skip
        try simp only [dt_b0, dt_b1, Decidable.not_not, Classical.not_not] at c3
        refine dt_ldc dX12_means_48 pk_X12_73 ?_
        refine dt_iret dX12_means_50 rfl (by decide) (by decide) ?_
        have e : oMeans A day r i n k = (-1000001, A) := by
          unfold oMeans
          rw [if_neg hn, if_pos (by omega)]
        rw [e]
        exact ⟨rfl, rfl, hA, fa⟩
      · skip
        try simp only [dt_b0, dt_b1, Decidable.not_not, Classical.not_not] at c3
        refine dt_iload dX12_means_29 rfl ?_
        refine dt_ui2l dX12_means_31 (by first | assumption | exact hwf _ _ | exact dt_b32 _ | omega | exact ⟨by omega, by omega⟩ | decide | exact ⟨by simp (disch := omega) only [dt_up_s, dt_up_k, dt_up_n]; omega, by simp (disch := omega) only [dt_up_s, dt_up_k, dt_up_n]; omega⟩) ?_
        refine dt_lconst (x := 0) dX12_means_32 (by decide) ?_
        refine dt_ldc2 dX12_means_33 pk_X12_226 ?_
        refine dt_xS dX12_means_36 pc_X12_63 (s_X12_in (by first | exact ⟨by omega, by omega⟩ | decide) (by first | exact ⟨by omega, by omega⟩ | decide) (by first | exact ⟨by omega, by omega⟩ | decide)) rfl rfl ⟨by decide, by decide⟩ (Nat.le_of_ble_eq_true rfl) ⟨by decide, by decide⟩ (dt_k3 ?_)
        refine dt_if_eq (tgt := 48) dX12_means_39 (by decide) (by first | assumption | exact hwf _ _ | exact dt_b32 _ | omega | exact ⟨by omega, by omega⟩ | decide | exact ⟨by simp (disch := omega) only [dt_up_s, dt_up_k, dt_up_n]; omega, by simp (disch := omega) only [dt_up_s, dt_up_k, dt_up_n]; omega⟩) (fun c4 => ?_) (fun c4 => ?_)
        · skip
          try simp only [dt_b0, dt_b1, Decidable.not_not, Classical.not_not] at c4
          refine dt_ldc dX12_means_48 pk_X12_73 ?_
          refine dt_iret dX12_means_50 rfl (by decide) (by decide) ?_
          have e : oMeans A day r i n k = (-1000001, A) := by
            unfold oMeans
            rw [if_neg hn, if_pos (by omega)]
          rw [e]
          exact ⟨rfl, rfl, hA, fa⟩
        · skip
          try simp only [dt_b0, dt_b1, Decidable.not_not, Classical.not_not] at c4
          refine dt_iload dX12_means_42 rfl ?_
          refine dt_iconst dX12_means_44 ?_
          refine dt_cm_ge (tgt := 51) dX12_means_45 (by decide) (by first | assumption | exact hwf _ _ | exact dt_b32 _ | omega | exact ⟨by omega, by omega⟩ | decide | exact ⟨by simp (disch := omega) only [dt_up_s, dt_up_k, dt_up_n]; omega, by simp (disch := omega) only [dt_up_s, dt_up_k, dt_up_n]; omega⟩) (by first | assumption | exact hwf _ _ | exact dt_b32 _ | omega | exact ⟨by omega, by omega⟩ | decide | exact ⟨by simp (disch := omega) only [dt_up_s, dt_up_k, dt_up_n]; omega, by simp (disch := omega) only [dt_up_s, dt_up_k, dt_up_n]; omega⟩) (fun c5 => ?_) (fun c5 => ?_)
          · skip
            refine dt_aloadn dX12_means_51 rfl rfl ?_
            refine dt_iloadn dX12_means_52 rfl rfl ?_
            refine dt_iloadn dX12_means_53 rfl rfl ?_
            refine dt_iload dX12_means_54 rfl ?_
            refine dt_xV dX12_means_56 pc_X12_228 rfl (s_X12_lack (by omega) (by omega) (by omega) (by omega) (hA.row (r := r.toNat) (by omega))) rfl rfl ⟨by decide, by decide⟩ rfl rfl (Nat.le_of_ble_eq_true rfl) ⟨by decide, by decide⟩ (dt_k3 ?_)
            obtain ⟨lo, hl⟩ : ∃ z, z = lk (sR A r.toNat) i n := ⟨_, rfl⟩
            rw [← hl]
            have hlr : 0 ≤ lo ∧ lo ≤ 2 := by rw [hl]; exact lk_in _ _ _
            refine dt_istore dX12_means_59 (by decide) rfl ?_
            dsimp only [List.set]
            refine dt_iload dX12_means_61 rfl ?_
            refine dt_if_le (tgt := 73) dX12_means_63 (by decide) (by first | assumption | exact hwf _ _ | exact dt_b32 _ | omega | exact ⟨by omega, by omega⟩ | decide | exact ⟨by simp (disch := omega) only [dt_up_s, dt_up_k, dt_up_n]; omega, by simp (disch := omega) only [dt_up_s, dt_up_k, dt_up_n]; omega⟩) (fun c6 => ?_) (fun c6 => ?_)
            · skip
              obtain ⟨q, hq⟩ : ∃ q, sR A r.toNat = some q := by
                cases hq : sR A r.toNat with
                | none => rw [hq] at hl; have hl : lo = 1 := hl; omega
                | some q => exact ⟨q, rfl⟩
              have hin : 0 ≤ i ∧ i + n ≤ (q.2.length : Int) := by
                by_cases g : 0 ≤ i ∧ i + n ≤ (q.2.length : Int)
                · exact g
                · rw [hq, show lk (some q) i n = 2 from if_neg g] at hl; omega
              have hrr := hA.row (r := r.toNat) (by omega)
              rw [hq] at hrr
              obtain ⟨q1, q2, q3, q4, q5⟩ := hRow_it hrr
              obtain ⟨i, rfl⟩ : ∃ z : Nat, i = z := ⟨i.toNat, by omega⟩
              obtain ⟨n, rfl⟩ : ∃ z : Nat, n = z := ⟨n.toNat, by omega⟩
              have sl := sub_len (l := q.2) (i := i) (n := n) (by omega)
              have hwfa := hwf
              refine dt_aloadn dX12_means_73 rfl rfl ?_
              refine dt_iloadn dX12_means_74 rfl rfl ?_
              refine dt_xV dX12_means_75 pc_X12_231 rfl (s_X12_tongueOf hX (by omega) (by omega) (by omega)) rfl rfl ⟨by decide, by decide⟩ rfl rfl (Nat.le_of_ble_eq_true rfl) ⟨by decide, by decide⟩ (dt_k3 ?_)
              obtain ⟨t, ht⟩ : ∃ t : Nat, day % ((sN A).1.length : Int) = t := ⟨(day % ((sN A).1.length : Int)).toNat, by have := Int.emod_nonneg day (b := ((sN A).1.length : Int)) (by omega); omega⟩
              have ht7 : t < (sN A).1.length := by have := Int.emod_lt_of_pos day (b := ((sN A).1.length : Int)) (by omega); omega
              rw [ht]
              refine dt_istore dX12_means_78 (by decide) rfl ?_
              dsimp only [List.set]
              refine dt_iconst dX12_means_80 ?_
              refine dt_istore dX12_means_81 (by decide) rfl ?_
              dsimp only [List.set]
              have lp83 : ∀ (fu : Nat) (z : Nat), (n : Int) - z < (fu : Int) → (z ≤ n) → (∀ j, j < z → ∀ x, ((q.2.drop i).take n)[j]? = some x → xAt (sN A) t x ≠ none) →  dt_V mX12_means (dt_rm 3 0 0) (dt_MC (fun v sh2 σ2 => v = some (dt_I (oMeans A day r i n k).1) ∧ sh2 = dt_SH ++ ex ∧ rEnd σ σ2 (oMeans A day r i n k).2) 0 0) 0 0 83 [some (dt_R 40), some (dt_I day), some (dt_I r), some (dt_I (i : Int)), some (dt_I (n : Int)), some (dt_I k), some (dt_I lo), some (dt_I (t : Int)), some (dt_I (z : Int))] [] (dt_SH ++ ex) σa := by
                intro fu
                induction fu with
                | zero =>
                  intro z hm zl hall
                  exfalso
                  omega
                | succ fu ih =>
                  intro z hm zl hall
                  refine dt_wfV fun hwf => ?_
                  refine dt_iload dX12_means_83 rfl ?_
                  refine dt_iload dX12_means_85 rfl ?_
                  refine dt_cm_ge (tgt := 122) dX12_means_87 (by decide) (by first | assumption | exact hwf _ _ | exact dt_b32 _ | omega | exact ⟨by omega, by omega⟩ | decide | exact ⟨by simp (disch := omega) only [dt_up_s, dt_up_k, dt_up_n]; omega, by simp (disch := omega) only [dt_up_s, dt_up_k, dt_up_n]; omega⟩) (by first | assumption | exact hwf _ _ | exact dt_b32 _ | omega | exact ⟨by omega, by omega⟩ | decide | exact ⟨by simp (disch := omega) only [dt_up_s, dt_up_k, dt_up_n]; omega, by simp (disch := omega) only [dt_up_s, dt_up_k, dt_up_n]; omega⟩) (fun c7 => ?_) (fun c7 => ?_)
                  · skip
                    refine dt_aloadn dX12_means_122 rfl rfl ?_
                    refine dt_iconst dX12_means_123 ?_
                    refine dt_wfV fun hwf => ?_
                    refine dt_putI dX12_means_124 pw_X12_57_12 rfl rfl (by first | assumption | exact hwf _ _ | exact dt_b32 _ | omega | exact ⟨by omega, by omega⟩ | decide | exact ⟨by simp (disch := omega) only [dt_up_s, dt_up_k, dt_up_n]; omega, by simp (disch := omega) only [dt_up_s, dt_up_k, dt_up_n]; omega⟩) ?_
                    obtain ⟨σb, eb⟩ : ∃ z, z = dt_up σa 40 1 0 := ⟨_, rfl⟩
                    rw [← eb]
                    have hB := hA.st 0
                    rw [← eb] at hB
                    have fb : ∀ b, (b < 40 ∨ 55 ≤ b) → σb b = σ b := fun b hb => by rw [eb, dt_up_o (by omega)]; exact fa b hb
                    have fb2 : ∀ b, b ≠ 40 → σb b = σa b := fun b hb => by rw [eb]; exact dt_up_o hb
                    clear eb
                    refine dt_wfV fun hwf => ?_
                    refine dt_aloadn dX12_means_127 rfl rfl ?_
                    have fb43 : σb 43 = σa 43 := fb2 43 (by decide)
                    have hXb : rX σb (sN A) := hX.kept (fb2 44 (by decide))
                    refine dt_xV dX12_means_128 pc_X12_234 rfl s_X12_startMeaning rfl rfl ⟨by decide, by decide⟩ rfl rfl (Nat.le_of_ble_eq_true rfl) ⟨by decide, by decide⟩ ?_
                    intro vs shs σs hqs
                    obtain ⟨rfl, hss, hfs, hMs⟩ := hqs
                    obtain rfl := hss.symm
                    refine dt_iconst dX12_means_131 ?_
                    refine dt_istore dX12_means_132 (by decide) rfl ?_
                    dsimp only [List.set]
                    have lp134 : ∀ (fu : Nat) (z : Nat) (P : Nat → Prop) (σ1 : dt_Mem), (n : Int) - z < (fu : Int) → (z ≤ n) → (∀ b, b ≠ 47 → b ≠ 48 → σ1 b = σb b) → (mP σ1 47 256 P) → (xSd (sN A) t (((q.2.drop i).take n).take z) = some P) →  dt_V mX12_means (dt_rm 3 0 0) (dt_MC (fun v sh2 σ2 => v = some (dt_I (oMeans A day r i n k).1) ∧ sh2 = dt_SH ++ ex ∧ rEnd σ σ2 (oMeans A day r i n k).2) 0 0) 0 0 134 [some (dt_R 40), some (dt_I day), some (dt_I r), some (dt_I (i : Int)), some (dt_I (n : Int)), some (dt_I k), some (dt_I lo), some (dt_I (t : Int)), some (dt_I (z : Int))] [] (dt_SH ++ ex) σ1 := by
                      intro fu
                      induction fu with
                      | zero =>
                        intro z P σ1 hm zl jf jm jp
                        exfalso
                        omega
                      | succ fu ih =>
                        intro z P σ1 hm zl jf jm jp
                        refine dt_wfV fun hwf => ?_
                        refine dt_iload dX12_means_134 rfl ?_
                        refine dt_iload dX12_means_136 rfl ?_
                        refine dt_cm_ge (tgt := 167) dX12_means_138 (by decide) (by first | assumption | exact hwf _ _ | exact dt_b32 _ | omega | exact ⟨by omega, by omega⟩ | decide | exact ⟨by simp (disch := omega) only [dt_up_s, dt_up_k, dt_up_n]; omega, by simp (disch := omega) only [dt_up_s, dt_up_k, dt_up_n]; omega⟩) (by first | assumption | exact hwf _ _ | exact dt_b32 _ | omega | exact ⟨by omega, by omega⟩ | decide | exact ⟨by simp (disch := omega) only [dt_up_s, dt_up_k, dt_up_n]; omega, by simp (disch := omega) only [dt_up_s, dt_up_k, dt_up_n]; omega⟩) (fun c8 => ?_) (fun c8 => ?_)
                        · skip
                          refine dt_aloadn dX12_means_167 rfl rfl ?_
                          refine dt_aloadn dX12_means_168 rfl rfl ?_
                          refine dt_getR dX12_means_169 pg_X12_28_12 rfl rfl ?_
                          refine dt_iload dX12_means_172 rfl ?_
                          refine dt_xV dX12_means_174 pc_X12_241 rfl (s_X12_marked rfl jm (by assumption)) rfl rfl ⟨by decide, by decide⟩ rfl rfl (Nat.le_of_ble_eq_true rfl) ⟨by decide, by decide⟩ (dt_k3 ?_)
                          refine dt_iret dX12_means_177 rfl (by decide) (by decide) ?_
                          have hP : xSd (sN A) t ((q.2.drop i).take n) = some P := by rw [← xSd_e (show ((q.2.drop i).take n).length ≤ z by omega)]; exact jp
                          have e : oMeans A day r ↑i ↑n k = (oM P k, sSt A 0) := by
                            unfold oMeans
                            rw [if_neg hn, if_neg (by omega)]
                            simp only [hq]
                            rw [if_neg (by omega), ht, Int.toNat_natCast, Int.toNat_natCast, hP]
                          rw [e]
                          exact ⟨rfl, rfl, hB.sy (fun k _ => by rw [jf 40 (by decide) (by decide)]) (fun b h1 h2 h3 => jf b (by omega) (by omega)), fun b hb => (jf b (by omega) (by omega)).trans (fb b hb)⟩
                        · skip
                          obtain ⟨x, hx⟩ := dt_lg (l := q.2) (i := i + z) (by omega)
                          have hsub : ((q.2.drop i).take n)[z]? = some x := sub_at hx (by omega)
                          have hx32 : dt_in32 x := by have := hwfa 43 (r.toNat * 40 + (i + z)); rw [q5 (i + z) x hx] at this; exact this
                          refine dt_aloadn dX12_means_141 rfl rfl ?_
                          refine dt_iload dX12_means_142 rfl ?_
                          refine dt_aloadn dX12_means_144 rfl rfl ?_
                          refine dt_getR dX12_means_145 pg_X12_16_12 rfl rfl ?_
                          refine dt_bipush dX12_means_148 (by decide) ?_
                          refine dt_iloadn dX12_means_150 rfl rfl ?_
                          refine dt_imul dX12_means_151 ?_
                          refine dt_iloadn dX12_means_152 rfl rfl ?_
                          refine dt_iadd dX12_means_153 ?_
                          refine dt_iload dX12_means_154 rfl ?_
                          refine dt_iadd dX12_means_156 ?_
                          refine dt_iald dX12_means_157 rfl (by first | omega | (simp (disch := omega) only [dt_up_s, dt_up_k, dt_up_n]; omega)) (by first | omega | (simp (disch := omega) only [dt_up_s, dt_up_k, dt_up_n]; omega)) (by decide) ?_
                          rw [show σ1 43 ((40 : Int) * r + (i : Int) + (z : Int)).toNat = x by rw [jf 43 (by decide) (by decide), fb43]; exact (show σa 43 ((40 : Int) * r + (i : Int) + (z : Int)).toNat = x by rw [show ((40 : Int) * r + (i : Int) + (z : Int)).toNat = r.toNat * 40 + (i + z) by omega]; exact q5 (i + z) x hx)]
                          obtain ⟨t2, w, wd, et, rfl, hw⟩ := xAt_ne (hall z (by omega) x hsub)
                          obtain rfl : t = t2 := by omega
                          refine dt_xV dX12_means_158 pc_X12_237 rfl (s_X12_mean (hXb.kept (jf 44 (by decide) (by decide))) hw jm) rfl rfl ⟨by decide, by decide⟩ rfl rfl (Nat.le_of_ble_eq_true rfl) ⟨by decide, by decide⟩ ?_
                          intro vm shm σm hqm
                          obtain ⟨rfl, hsm, hfm, hMm⟩ := hqm
                          obtain rfl := hsm.symm
                          refine dt_iinc dX12_means_161 rfl (by decide) rfl ?_
                          dsimp only [List.set]
                          refine dt_goto (tgt := 134) dX12_means_164 (by decide) ?_
                          exact dt_lb (ih (z + 1) (xSay P wd.2) σm (by omega) (by omega) (fun b h1 h2 => (hfm b h1 h2).trans (jf b h1 h2)) hMm (by rw [xSd_s hsub, jp]; exact xSd1_y (xAt_of hw))) ⟨rfl, rfl, rfl, rfl, rfl, rfl, rfl, rfl, rfl, trivial⟩
                    have hzn : z = n := by omega
                    exact dt_lb (lp134 50 0 xZ σs (by omega) (by omega) (fun b h1 _ => hfs b h1) hMs rfl) ⟨rfl, rfl, rfl, rfl, rfl, rfl, rfl, rfl, rfl, trivial⟩
                  · skip
                    obtain ⟨x, hx⟩ := dt_lg (l := q.2) (i := i + z) (by omega)
                    have hsub : ((q.2.drop i).take n)[z]? = some x := sub_at hx (by omega)
                    have hx32 : dt_in32 x := by have := hwfa 43 (r.toNat * 40 + (i + z)); rw [q5 (i + z) x hx] at this; exact this
                    refine dt_aloadn dX12_means_90 rfl rfl ?_
                    refine dt_iload dX12_means_91 rfl ?_
                    refine dt_aloadn dX12_means_93 rfl rfl ?_
                    refine dt_getR dX12_means_94 pg_X12_16_12 rfl rfl ?_
                    refine dt_bipush dX12_means_97 (by decide) ?_
                    refine dt_iloadn dX12_means_99 rfl rfl ?_
                    refine dt_imul dX12_means_100 ?_
                    refine dt_iloadn dX12_means_101 rfl rfl ?_
                    refine dt_iadd dX12_means_102 ?_
                    refine dt_iload dX12_means_103 rfl ?_
                    refine dt_iadd dX12_means_105 ?_
                    refine dt_iald dX12_means_106 rfl (by first | omega | (simp (disch := omega) only [dt_up_s, dt_up_k, dt_up_n]; omega)) (by first | omega | (simp (disch := omega) only [dt_up_s, dt_up_k, dt_up_n]; omega)) (by decide) ?_
                    rw [(show σa 43 ((40 : Int) * r + (i : Int) + (z : Int)).toNat = x by rw [show ((40 : Int) * r + (i : Int) + (z : Int)).toNat = r.toNat * 40 + (i + z) by omega]; exact q5 (i + z) x hx)]
                    refine dt_xV dX12_means_107 pc_X12_212 rfl (s_X12_isWord hX (by omega) hx32) rfl rfl ⟨by decide, by decide⟩ rfl rfl (Nat.le_of_ble_eq_true rfl) ⟨by decide, by decide⟩ (dt_k3 ?_)
                    refine dt_if_ne (tgt := 116) dX12_means_110 (by decide) (by first | assumption | exact hwf _ _ | exact dt_b32 _ | omega | exact ⟨by omega, by omega⟩ | decide | exact ⟨by simp (disch := omega) only [dt_up_s, dt_up_k, dt_up_n]; omega, by simp (disch := omega) only [dt_up_s, dt_up_k, dt_up_n]; omega⟩) (fun c9 => ?_) (fun c9 => ?_)
                    · skip
                      try simp only [dt_b0, dt_b1, Decidable.not_not, Classical.not_not] at c9
                      have hwx : xAt (sN A) t x ≠ none := by assumption
                      refine dt_iinc dX12_means_116 rfl (by decide) rfl ?_
                      dsimp only [List.set]
                      refine dt_goto (tgt := 83) dX12_means_119 (by decide) ?_
                      have hall2 : ∀ j, j < z + 1 → ∀ x, ((q.2.drop i).take n)[j]? = some x → xAt (sN A) t x ≠ none := fun j hj y hy => by
                        by_cases e : j = z
                        · subst e; obtain rfl := Option.some.inj (hsub.symm.trans hy); exact hwx
                        · exact hall j (by omega) y hy
                      exact dt_lb (ih (z + 1) (by omega) (by omega) hall2) ⟨rfl, rfl, rfl, rfl, rfl, rfl, rfl, rfl, rfl, trivial⟩
                    · skip
                      try simp only [dt_b0, dt_b1, Decidable.not_not, Classical.not_not] at c9
                      have hwx : xAt (sN A) t x = none := by first | assumption | exact Classical.not_not.mp (by assumption)
                      refine dt_ldc dX12_means_113 pk_X12_73 ?_
                      refine dt_iret dX12_means_115 rfl (by decide) (by decide) ?_
                      have e : oMeans A day r ↑i ↑n k = (-1000001, A) := by
                        unfold oMeans
                        rw [if_neg hn, if_neg (by omega)]
                        simp only [hq]
                        rw [if_neg (by omega), ht, Int.toNat_natCast, Int.toNat_natCast, xSd_no hsub hwx]
                      rw [e]
                      exact ⟨rfl, rfl, hA, fa⟩
              exact dt_lb (lp83 50 0 (by omega) (by omega) (fun j hj => absurd hj (Nat.not_lt_zero j))) ⟨rfl, rfl, rfl, rfl, rfl, rfl, rfl, rfl, rfl, trivial⟩
            · skip
              refine dt_aloadn dX12_means_66 rfl rfl ?_
              refine dt_iload dX12_means_67 rfl ?_
              refine dt_xV dX12_means_69 pc_X12_74 rfl (s_X12_finding (by first | assumption | exact hwf _ _ | exact dt_b32 _ | omega | exact ⟨by omega, by omega⟩ | decide | exact ⟨by simp (disch := omega) only [dt_up_s, dt_up_k, dt_up_n]; omega, by simp (disch := omega) only [dt_up_s, dt_up_k, dt_up_n]; omega⟩)) rfl rfl ⟨by decide, by decide⟩ rfl rfl (Nat.le_of_ble_eq_true rfl) ⟨by decide, by decide⟩ (dt_k3 ?_)
              refine dt_iret dX12_means_72 rfl (by decide) (by decide) ?_
              cases hq : sR A r.toNat with
              | none =>
                rw [hq] at hl
                have hl : lo = 1 := hl
                have e : oMeans A day r i n k = (-1000011, sSt A 1) := by
                  unfold oMeans
                  rw [if_neg hn, if_neg (by omega)]
                  simp only [hq]
                rw [e, hl]
                exact ⟨rfl, rfl, hA.st 1, fun b hb => (dt_up_o (by omega)).trans (fa b hb)⟩
              | some q =>
                by_cases g : 0 ≤ i ∧ i + n ≤ (q.2.length : Int)
                · rw [hq, show lk (some q) i n = 0 from if_pos g] at hl; omega
                · rw [hq, show lk (some q) i n = 2 from if_neg g] at hl
                  have e : oMeans A day r i n k = (-1000012, sSt A 2) := by
                    unfold oMeans
                    rw [if_neg hn, if_neg (by omega)]
                    simp only [hq]
                    rw [if_pos g]
                  rw [e, hl]
                  exact ⟨rfl, rfl, hA.st 2, fun b hb => (dt_up_o (by omega)).trans (fa b hb)⟩
          · skip
            refine dt_ldc dX12_means_48 pk_X12_73 ?_
            refine dt_iret dX12_means_50 rfl (by decide) (by decide) ?_
            have e : oMeans A day r i n k = (-1000001, A) := by
              unfold oMeans
              rw [if_neg hn, if_pos (by omega)]
            rw [e]
            exact ⟨rfl, rfl, hA, fa⟩
  · skip
    rw [e7] at c1
    have hn : (sN A).1 = [] := by simpa [dt_b0] using c1
    refine dt_ldc dX12_means_12 pk_X12_204 ?_
    refine dt_iret dX12_means_14 rfl (by decide) (by decide) ?_
    have e : oMeans A day r i n k = (-1000002, A) := by
      unfold oMeans
      rw [if_pos hn]
    rw [e]
    exact ⟨rfl, rfl, hA, fa⟩
