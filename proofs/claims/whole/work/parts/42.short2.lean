
/-! the reference's way: how far a set is from what is meant -/
noncomputable def xWs (s : Prop) (m : Nat) (wd : Nat × List Nat) : List Nat := by
  classical
  exact if s then (if xWithin wd.2 m then [xCom wd.2] else []) else wd.2
theorem xWs_i {s : Prop} {m : Nat} {wd : Nat × List Nat} {r : Nat} : r ∈ xWs s m wd ↔ xWay s m wd r := by
  unfold xWs xWay
  by_cases hs : s
  · rw [if_pos hs]
    by_cases hw : xWithin wd.2 m
    · rw [if_pos hw]
      exact ⟨fun h => Or.inl ⟨hs, hw, List.mem_singleton.mp h⟩, fun h => h.elim (fun z => List.mem_singleton.mpr z.2.2) (fun z => absurd hs z.1)⟩
    · rw [if_neg hw]
      exact ⟨fun h => by simp at h, fun h => h.elim (fun z => absurd z.2.1 hw) (fun z => absurd hs z.1)⟩
  · rw [if_neg hs]
    exact ⟨fun h => Or.inr ⟨hs, h⟩, fun h => h.elim (fun z => absurd z.1 hs) (fun z => z.2)⟩
theorem xWs_l {s : Prop} {m : Nat} {wd : Nat × List Nat} (h : wd.2.length ≤ 3) : (xWs s m wd).length ≤ 3 := by
  unfold xWs
  split
  · split
    · show 1 ≤ 3; decide
    · show 0 ≤ 3; decide
  · exact h
def xF (E : xG) (m : Nat) : Nat → Nat → Prop
  | 0, k => k = m
  | n + 1, k => ∃ w r, E w r ∧ xF E m n (k ||| r)
def xFd (E : xG) (m d k : Nat) : Prop := xF E m d k ∧ ∀ d', d' < d → ¬ xF E m d' k
theorem xFd_u {E : xG} {m d d2 k : Nat} (h : xFd E m d k) (h2 : xFd E m d2 k) : d = d2 := by
  rcases Nat.lt_trichotomy d d2 with g | g | g
  · exact absurd h.1 (h2.2 d g)
  · exact g
  · exact absurd h2.1 (h.2 d2 g)
/-- an entry, n steps done -/
def xFe (E : xG) (m : Nat) (σ : dt_Mem) (n k : Nat) : Prop := (∃ d, d ≤ n ∧ σ 49 k = (d : Nat) ∧ xFd E m d k) ∨ (σ 49 k = -1 ∧ ∀ d, d ≤ n → ¬ xF E m d k)
theorem xFe.i {E : xG} {m n k : Nat} {σ : dt_Mem} (h : xFe E m σ n k) : -1 ≤ σ 49 k ∧ σ 49 k ≤ n := by
  rcases h with ⟨d, h1, h2, -⟩ | ⟨h1, -⟩ <;> omega
theorem xFe.kept {E : xG} {m n k : Nat} {σ σ' : dt_Mem} (h : xFe E m σ n k) (e : σ' 49 k = σ 49 k) : xFe E m σ' n k := by
  unfold xFe
  rw [e]
  exact h
/-- entry k while its ways are tried: D those that were -/
def xFk (E : xG) (m : Nat) (σ : dt_Mem) (n k : Nat) (D : Nat → Nat → Prop) : Prop := (∃ d, d ≤ n + 1 ∧ σ 49 k = (d : Nat) ∧ xFd E m d k) ∨ (σ 49 k = -1 ∧ (∀ d, d ≤ n → ¬ xF E m d k) ∧ ∀ w r, D w r → E w r → ¬ xF E m n (k ||| r))
theorem xFk.i {E : xG} {m n k : Nat} {σ : dt_Mem} {D : Nat → Nat → Prop} (h : xFk E m σ n k D) : -1 ≤ σ 49 k ∧ σ 49 k ≤ n + 1 := by
  rcases h with ⟨d, h1, h2, -⟩ | ⟨h1, -⟩ <;> omega
theorem xFe.k {E : xG} {m n k : Nat} {σ : dt_Mem} (h : xFe E m σ n k) : xFk E m σ n k (fun _ _ => False) := by
  rcases h with ⟨d, h1, h2, h3⟩ | ⟨h1, h2⟩
  · exact Or.inl ⟨d, by omega, h2, h3⟩
  · exact Or.inr ⟨h1, h2, fun _ _ z => z.elim⟩
theorem xFk.e {E : xG} {m n k : Nat} {σ : dt_Mem} {D : Nat → Nat → Prop} (h : xFk E m σ n k D) (hD : σ 49 k = -1 → ∀ w r, E w r → D w r) : xFe E m σ (n + 1) k := by
  rcases h with g | ⟨h1, h2, h3⟩
  · exact Or.inl g
  · refine Or.inr ⟨h1, fun d hd hf => ?_⟩
    rcases (by omega : d ≤ n ∨ d = n + 1) with g | rfl
    · exact h2 d g hf
    · obtain ⟨w, r, h4, h5⟩ := hf
      exact h3 w r (hD h1 w r h4) h4 h5
theorem xFk.ext {E : xG} {m n k : Nat} {σ : dt_Mem} {D D2 : Nat → Nat → Prop} (h : xFk E m σ n k D) (e : σ 49 k = -1 → ∀ w r, E w r → D2 w r → D w r) : xFk E m σ n k D2 := by
  rcases h with g | ⟨h1, h2, h3⟩
  · exact Or.inl g
  · exact Or.inr ⟨h1, h2, fun w r z hw => h3 w r (e h1 w r hw z) hw⟩
/-- all entries while k is tried -/
def xFo (E : xG) (m : Nat) (σ : dt_Mem) (n k : Nat) : Prop := ∀ j, j < 256 → (j < k → xFe E m σ (n + 1) j) ∧ (k < j → xFe E m σ n j)
/-! from before and from behind -/
theorem xR_F {E : xG} {m : Nat} : ∀ (j i S c : Nat), xR E i S c → xF E m j S → ∃ c', xR E (i + j) m c'
  | 0, i, S, c, h, hf => by
    obtain rfl : S = m := hf
    exact ⟨c, h⟩
  | j + 1, i, S, c, h, hf => by
    obtain ⟨w, r, h1, h2⟩ := hf
    obtain ⟨c', h3⟩ := xR_F j (i + 1) (S ||| r) (c * 8 + w) ⟨S, c, w, r, h, h1, rfl, rfl⟩ h2
    exact ⟨c', by rw [show i + (j + 1) = i + 1 + j by omega]; exact h3⟩
theorem xF_R {E : xG} {m : Nat} {d : Nat} (h : xF E m d 0) : ∃ c, xR E d m c := by
  obtain ⟨c, hc⟩ := xR_F d 0 0 0 ⟨rfl, rfl⟩ h
  exact ⟨c, by rw [Nat.zero_add] at hc; exact hc⟩
/-- the words of a path, cut j before its end -/
theorem xR_cut {E : xG} (hE : xEok E) {m : Nat} : ∀ (j i c : Nat), xR E (i + j) m c → ∃ S, xR E i S (c / 8 ^ j) ∧ xF E m j S
  | 0, i, c, h => ⟨m, by rw [Nat.pow_zero, Nat.div_one]; exact h, rfl⟩
  | j + 1, i, c, h => by
    obtain ⟨T, h1, h2⟩ := xR_cut hE j (i + 1) c (by rw [show i + 1 + j = i + (j + 1) by omega]; exact h)
    obtain ⟨S, c', w, r, h3, h4, h5, h6⟩ := h1
    have hw := (hE w r h4).1
    refine ⟨S, ?_, w, r, h4, by rw [h5]; exact h2⟩
    have e : c / 8 ^ (j + 1) = c' := by rw [Nat.pow_succ, ← Nat.div_div_eq_div_mul, h6]; omega
    rw [e]
    exact h3
theorem xR_cut2 {E : xG} (hE : xEok E) {m j i c : Nat} (h : xR E (i + (j + 1)) m c) : ∃ S w r, xR E i S (c / 8 ^ (j + 1)) ∧ E w r ∧ xF E m j (S ||| r) ∧ c / 8 ^ j = c / 8 ^ (j + 1) * 8 + w := by
  obtain ⟨T, h1, h2⟩ := xR_cut hE j (i + 1) c (by rw [show i + 1 + j = i + (j + 1) by omega]; exact h)
  obtain ⟨S, c', w, r, h3, h4, h5, h6⟩ := h1
  have hw := (hE w r h4).1
  have e : c / 8 ^ (j + 1) = c' := by rw [Nat.pow_succ, ← Nat.div_div_eq_div_mul, h6]; omega
  refine ⟨S, w, r, by rw [e]; exact h3, h4, by rw [h5]; exact h2, by rw [e]; exact h6⟩
theorem xFd_R {E : xG} {m L : Nat} (h : xFd E m L 0) (hE : xEok E) : ∀ d, d < L → ∀ c, ¬ xR E d m c := fun d hd c hc => by
  obtain ⟨S, h1, h2⟩ := xR_cut hE d 0 c (by rw [Nat.zero_add]; exact hc)
  obtain rfl : S = 0 := h1.1
  exact h.2 d hd h2
/-- the words laid so far, from the first on, c their numbers -/
def xPre (E : xG) (m L i c : Nat) (S : Nat) : Prop := xR E i S c ∧ xFd E m (L - i) S
def xLs (E : xG) (m L i c : Nat) : Prop := c < 8 ^ i ∧ (∃ S, xPre E m L i c S) ∧ ∀ c', xR E L m c' → c ≤ c' / 8 ^ (L - i)
theorem xLs_0 {E : xG} {m L : Nat} (h : xFd E m L 0) : xLs E m L 0 0 := ⟨by decide, ⟨0, ⟨rfl, rfl⟩, h⟩, fun _ _ => Nat.zero_le _⟩
theorem xLs_s {E : xG} (hE : xEok E) {m L i c w : Nat} (hL : xFd E m L 0) (hi : i < L) (h : xLs E m L i c) (hw : w < 8) (hg : ∃ S r, xPre E m L i c S ∧ E w r ∧ xFd E m (L - i - 1) (S ||| r)) (hn : ∀ w2, w2 < w → ¬ ∃ S r, xPre E m L i c S ∧ E w2 r ∧ xFd E m (L - i - 1) (S ||| r)) : xLs E m L (i + 1) (c * 8 + w) := by
  obtain ⟨h1, h2, h3⟩ := h
  refine ⟨by rw [Nat.pow_succ]; omega, ?_, fun c' hc' => ?_⟩
  · obtain ⟨S, r, g1, g2, g3⟩ := hg
    exact ⟨S ||| r, ⟨S, c, w, r, g1.1, g2, rfl, rfl⟩, by rw [show L - (i + 1) = L - i - 1 by omega]; exact g3⟩
  · have a := h3 c' hc'
    obtain ⟨S, w2, r, b1, b2, b3, b4⟩ := xR_cut2 hE (j := L - i - 1) (i := i) (by rw [show i + (L - i - 1 + 1) = L by omega]; exact hc')
    rw [show L - i - 1 + 1 = L - i by omega] at b1 b4
    rw [show L - (i + 1) = L - i - 1 by omega, b4]
    rcases Nat.lt_or_ge c (c' / 8 ^ (L - i)) with g | g
    · omega
    · have e : c' / 8 ^ (L - i) = c := by omega
      rw [e] at b1 ⊢
      have mn : ∀ d, d < L - i - 1 → ¬ xF E m d (S ||| r) := fun d hd hf => by
        obtain ⟨c2, h5⟩ := xR_F d (i + 1) (S ||| r) _ ⟨S, c, w2, r, b1, b2, rfl, rfl⟩ hf
        exact xFd_R hL hE (i + 1 + d) (by omega) c2 h5
      have mS : xFd E m (L - i) S := ⟨by rw [show L - i = L - i - 1 + 1 by omega]; exact ⟨w2, r, b2, b3⟩, fun d hd hf => by
        obtain ⟨c2, h5⟩ := xR_F d i S _ b1 hf
        exact xFd_R hL hE (i + d) (by omega) c2 h5⟩
      have : ¬ w2 < w := fun z => hn w2 z ⟨S, r, ⟨b1, mS⟩, b2, b3, mn⟩
      omega
/-- there is a word to go on by -/
theorem xLs_w {E : xG} {m L i c : Nat} (hi : i < L) (h : xLs E m L i c) : ∃ w S r, xPre E m L i c S ∧ E w r ∧ xFd E m (L - i - 1) (S ||| r) := by
  obtain ⟨-, ⟨S, g1, g2⟩, -⟩ := h
  obtain ⟨h1, h2⟩ := id g2
  rw [show L - i = L - i - 1 + 1 by omega] at h1
  obtain ⟨w, r, h3, h4⟩ := h1
  exact ⟨w, S, r, ⟨g1, g2⟩, h3, h4, fun d hd hf => h2 (d + 1) (by omega) ⟨w, r, h3, hf⟩⟩
theorem xLs_e {E : xG} (hE : xEok E) {m L c : Nat} (hL8 : L ≤ 8) (hL : xFd E m L 0) (h : xLs E m L L c) : xMin E m L c := by
  obtain ⟨-, ⟨S, g1, g2⟩, h3⟩ := h
  rw [Nat.sub_self] at g2
  obtain rfl : S = m := g2.1
  refine ⟨hL8, g1, fun c' hc' => ?_, xFd_R hL hE⟩
  have := h3 c' hc'
  rw [Nat.sub_self, Nat.pow_zero, Nat.div_one] at this
  exact this
theorem xMin_no {E : xG} {m : Nat} (hE : xEok E) (h : ∀ d, d ≤ 8 → ¬ xF E m d 0) : ∀ d c, ¬ xMin E m d c := fun d c ⟨h1, h2, _⟩ => by
  obtain ⟨S, g1, g2⟩ := xR_cut hE d 0 c (by rw [Nat.zero_add]; exact h2)
  obtain rfl : S = 0 := g1.1
  exact h d h1 g2
theorem dt_up_id (σ : dt_Mem) (a k : Nat) : dt_up σ a k (σ a k) = σ := by
  funext b j
  unfold dt_up
  by_cases hb : b = a
  · subst hb
    by_cases hj : j = k
    · subst hj; rw [if_pos rfl, if_pos rfl]
    · rw [if_pos rfl, if_neg hj]
  · rw [if_neg hb]
theorem xFk_no {E : xG} {m n k r : Nat} {σ : dt_Mem} (hk : k < 256) (hr : r < 256) (ho : xFo E m σ n k) (h2 : ∀ d, d ≤ n → ¬ xF E m d k) {w : Nat} (hw : E w r) (h : ¬ σ 49 (k ||| r) = (n : Int)) : ¬ xF E m n (k ||| r) := fun hf => by
  have hor := Nat.or_lt_two_pow (n := 8) hk hr
  have hle : k ≤ k ||| r := Nat.left_le_or
  rcases Nat.eq_or_lt_of_le hle with e | e
  · rw [← e] at hf; exact h2 n (Nat.le_refl n) hf
  · rcases (ho (k ||| r) hor).2 e with ⟨d, a1, a2, a3⟩ | ⟨a1, a2⟩
    · have hd : d ≠ n := fun z => h (by rw [a2, z])
      exact h2 (d + 1) (by omega) ⟨w, r, hw, a3.1⟩
    · exact a2 n (Nat.le_refl n) hf
theorem xFk_ye {E : xG} {m n k r : Nat} {σ : dt_Mem} (hk : k < 256) (hr : r < 256) (ho : xFo E m σ n k) (h1 : σ 49 k = -1) (h2 : ∀ d, d ≤ n → ¬ xF E m d k) {w : Nat} (hw : E w r) (h : σ 49 (k ||| r) = (n : Int)) : xFd E m (n + 1) k := by
  have hor := Nat.or_lt_two_pow (n := 8) hk hr
  have hle : k ≤ k ||| r := Nat.left_le_or
  rcases Nat.eq_or_lt_of_le hle with e | e
  · rw [← e] at h; omega
  · rcases (ho (k ||| r) hor).2 e with ⟨d, a1, a2, a3⟩ | ⟨a1, a2⟩
    · obtain rfl : d = n := by omega
      exact ⟨⟨w, r, hw, a3.1⟩, fun d' hd => h2 d' (by omega)⟩
    · omega
theorem xFe.at {E : xG} {m j k : Nat} {σ : dt_Mem} (h : xFe E m σ 8 k) (hj : j ≤ 8) : σ 49 k = (j : Int) ↔ xFd E m j k := by
  rcases h with ⟨d, a1, a2, a3⟩ | ⟨a1, a2⟩
  · exact ⟨fun g => by obtain rfl : d = j := by omega
                       exact a3, fun g => by rw [a2, xFd_u a3 g]⟩
  · exact ⟨fun g => by omega, fun g => absurd g.1 (a2 j hj)⟩
theorem s_X12_waysOf {ex : List dt_Shp} {σ : dt_Mem} {X : dX} {t w m : Nat} {wd : Nat × List Nat} {b : Int} {s : Prop} (hX : rX σ X) (hw : xW X t w wd) (hm8 : m < 256) (hb : b = dt_b s) : dt_Sp mX12_waysOf 2 0 0 [dt_R 40, dt_I (t : Int), dt_I (w : Int), dt_I (m : Int), dt_I b] (dt_SH ++ ex) σ (fun v sh2 σ2 => v = some (dt_I (((xWs s m wd).length : Nat) : Int)) ∧ sh2 = dt_SH ++ ex ∧ σ2 = σ) := by
  refine dt_Sp_of (by decide) (Nat.le_of_ble_eq_true rfl) ?_
  refine dt_wfV fun hwf => ?_
  have hb01 : b = 0 ∨ b = 1 := by rw [hb]; exact dt_b01 s
  obtain ⟨⟨k0, k1, k2, k3⟩, k4, k5, k6⟩ := hX.wd hw
  have k8 := k3.2.2.2.1
  show dt_V _ _ _ 0 0 0 [some (dt_R 40), some (dt_I (t : Int)), some (dt_I (w : Int)), some (dt_I (m : Int)), some (dt_I b)] [] _ _
  refine dt_iload dX12_waysOf_0 rfl ?_
  refine dt_if_ne (tgt := 14) dX12_waysOf_2 (by decide) (by first | assumption | exact hwf _ _ | exact dt_b32 _ | omega | exact ⟨by omega, by omega⟩ | decide | exact ⟨by simp (disch := omega) only [dt_up_s, dt_up_k, dt_up_n]; omega, by simp (disch := omega) only [dt_up_s, dt_up_k, dt_up_n]; omega⟩) (fun c1 => ?_) (fun c1 => ?_)
  · skip
    have hs : s := Classical.byContradiction fun z => by have h2 := hb; rw [dt_bF z] at h2; omega
    refine dt_aloadn dX12_waysOf_14 rfl rfl ?_
    refine dt_iloadn dX12_waysOf_15 rfl rfl ?_
    refine dt_iloadn dX12_waysOf_16 rfl rfl ?_
    refine dt_iloadn dX12_waysOf_17 rfl rfl ?_
    refine dt_xV dX12_waysOf_18 pc_X12_245 rfl (s_X12_isWithin hX hw hm8) rfl rfl ⟨by decide, by decide⟩ rfl rfl (Nat.le_of_ble_eq_true rfl) ⟨by decide, by decide⟩ (dt_k3 ?_)
    refine dt_if_eq (tgt := 28) dX12_waysOf_21 (by decide) (by first | assumption | exact hwf _ _ | exact dt_b32 _ | omega | exact ⟨by omega, by omega⟩ | decide | exact ⟨by simp (disch := omega) only [dt_up_s, dt_up_k, dt_up_n]; omega, by simp (disch := omega) only [dt_up_s, dt_up_k, dt_up_n]; omega⟩) (fun c2 => ?_) (fun c2 => ?_)
    · skip
      try simp only [dt_b0, dt_b1, Decidable.not_not, Classical.not_not] at c2
      have hwi : ¬ xWithin wd.2 m := by assumption
      refine dt_iconst dX12_waysOf_28 ?_
      refine dt_iret dX12_waysOf_29 rfl (by decide) (by decide) ?_
      refine ⟨?_, rfl, rfl⟩
      unfold xWs
      rw [if_pos hs, if_neg hwi]
      rfl
    · skip
      try simp only [dt_b0, dt_b1, Decidable.not_not, Classical.not_not] at c2
      have hwi : xWithin wd.2 m := by assumption
      refine dt_iconst dX12_waysOf_24 ?_
      refine dt_goto (tgt := 29) dX12_waysOf_25 (by decide) ?_
      refine dt_iret dX12_waysOf_29 rfl (by decide) (by decide) ?_
      refine ⟨?_, rfl, rfl⟩
      unfold xWs
      rw [if_pos hs, if_pos hwi]
      rfl
  · skip
    have hs : ¬ s := fun z => by have h2 := hb; rw [dt_bT z] at h2; omega
    refine dt_aloadn dX12_waysOf_5 rfl rfl ?_
    refine dt_iloadn dX12_waysOf_6 rfl rfl ?_
    refine dt_iloadn dX12_waysOf_7 rfl rfl ?_
    refine dt_xV dX12_waysOf_8 pc_X12_197 rfl (s_X12_readings hX hw) rfl rfl ⟨by decide, by decide⟩ rfl rfl (Nat.le_of_ble_eq_true rfl) ⟨by decide, by decide⟩ (dt_k3 ?_)
    refine dt_goto (tgt := 29) dX12_waysOf_11 (by decide) ?_
    refine dt_iret dX12_waysOf_29 rfl (by decide) (by decide) ?_
    refine ⟨?_, rfl, rfl⟩
    unfold xWs
    rw [if_neg hs]
theorem s_X12_onBy {ex : List dt_Shp} {σ : dt_Mem} {X : dX} {t w m : Nat} {wd : Nat × List Nat} {b : Int} {s : Prop} {q r : Nat} (hX : rX σ X) (hw : xW X t w wd) (hm8 : m < 256) (hb : b = dt_b s) (hq : (xWs s m wd)[q]? = some r) : dt_Sp mX12_onBy 2 0 0 [dt_R 40, dt_I (t : Int), dt_I (w : Int), dt_I (q : Int), dt_I b] (dt_SH ++ ex) σ (fun v sh2 σ2 => v = some (dt_I (r : Int)) ∧ sh2 = dt_SH ++ ex ∧ σ2 = σ) := by
  refine dt_Sp_of (by decide) (Nat.le_of_ble_eq_true rfl) ?_
  refine dt_wfV fun hwf => ?_
  have hb01 : b = 0 ∨ b = 1 := by rw [hb]; exact dt_b01 s
  obtain ⟨⟨k0, k1, k2, k3⟩, k4, k5, k6⟩ := hX.wd hw
  have k8 := k3.2.2.2.1
  have hq3 := dt_gl hq
  have hl3 := xWs_l (s := s) (m := m) k8
  show dt_V _ _ _ 0 0 0 [some (dt_R 40), some (dt_I (t : Int)), some (dt_I (w : Int)), some (dt_I (q : Int)), some (dt_I b)] [] _ _
  refine dt_iload dX12_onBy_0 rfl ?_
  refine dt_if_eq (tgt := 14) dX12_onBy_2 (by decide) (by first | assumption | exact hwf _ _ | exact dt_b32 _ | omega | exact ⟨by omega, by omega⟩ | decide | exact ⟨by simp (disch := omega) only [dt_up_s, dt_up_k, dt_up_n]; omega, by simp (disch := omega) only [dt_up_s, dt_up_k, dt_up_n]; omega⟩) (fun c1 => ?_) (fun c1 => ?_)
  · skip
    have hs : ¬ s := fun z => by have h2 := hb; rw [dt_bT z] at h2; omega
    have hq2 : wd.2[q]? = some r := by
      unfold xWs at hq
      rw [if_neg hs] at hq
      exact hq
    refine dt_aloadn dX12_onBy_14 rfl rfl ?_
    refine dt_iloadn dX12_onBy_15 rfl rfl ?_
    refine dt_iloadn dX12_onBy_16 rfl rfl ?_
    refine dt_iloadn dX12_onBy_17 rfl rfl ?_
    refine dt_xV dX12_onBy_18 pc_X12_200 rfl (s_X12_reading hX hw hq2) rfl rfl ⟨by decide, by decide⟩ rfl rfl (Nat.le_of_ble_eq_true rfl) ⟨by decide, by decide⟩ (dt_k3 ?_)
    refine dt_iret dX12_onBy_21 rfl (by decide) (by decide) ?_
    first | exact ⟨by rw [hr], rfl, rfl⟩ | exact ⟨rfl, rfl, rfl⟩
  · skip
    have hs : s := Classical.byContradiction fun z => by have h2 := hb; rw [dt_bF z] at h2; omega
    have hr : r = xCom wd.2 := by
      rcases xWs_i.mp (List.mem_of_getElem? hq) with z | z
      · exact z.2.2
      · exact absurd hs z.1
    refine dt_aloadn dX12_onBy_5 rfl rfl ?_
    refine dt_iloadn dX12_onBy_6 rfl rfl ?_
    refine dt_iloadn dX12_onBy_7 rfl rfl ?_
    refine dt_xV dX12_onBy_8 pc_X12_249 rfl (s_X12_common hX hw) rfl rfl ⟨by decide, by decide⟩ rfl rfl (Nat.le_of_ble_eq_true rfl) ⟨by decide, by decide⟩ (dt_k3 ?_)
    refine dt_goto (tgt := 21) dX12_onBy_11 (by decide) ?_
    refine dt_iret dX12_onBy_21 rfl (by decide) (by decide) ?_
    first | exact ⟨by rw [hr], rfl, rfl⟩ | exact ⟨rfl, rfl, rfl⟩
theorem s_X12_layFar {ex : List dt_Shp} {σ : dt_Mem} {X : dX} {t m : Nat} {tg : List (Nat × List Nat)} {b : Int} {s : Prop} (hX : rX σ X) (htg : X.1[t]? = some tg) (hm8 : m < 256) (hb : b = dt_b s) : dt_Sp mX12_layFar 3 0 0 [dt_R 40, dt_I (t : Int), dt_I (m : Int), dt_I b] (dt_SH ++ ex) σ (fun v sh2 σ2 => v = none ∧ sh2 = dt_SH ++ ex ∧ (∀ b, b ≠ 49 → σ2 b = σ b) ∧ ∀ k, k < 256 → xFe (xEd s m tg) m σ2 8 k) := by
  refine dt_Sp_of (by decide) (Nat.le_of_ble_eq_true rfl) ?_
  refine dt_wfV fun hwf => ?_
  obtain ⟨f1, f2, f3, f4, f5⟩ := hX.tg htg
  have hb01 : b = 0 ∨ b = 1 := by rw [hb]; exact dt_b01 s
  have hE : xEok (xEd s m tg) := xEd_ok ⟨f2, f5⟩
  show dt_V _ _ _ 0 0 0 [some (dt_R 40), some (dt_I (t : Int)), some (dt_I (m : Int)), some (dt_I b), none, none, none, none] [] _ _
  refine dt_iconst dX12_layFar_0 ?_
  refine dt_istore dX12_layFar_1 (by decide) rfl ?_
  dsimp only [List.set]
  have lp3 : ∀ (fu : Nat) (i : Nat) (σ1 : dt_Mem), 256 - (i : Int) < (fu : Int) → (i ≤ 256) → (∀ b, b ≠ 49 → σ1 b = σ b) → (∀ j, j < i → xFe (xEd s m tg) m σ1 0 j) →  dt_V mX12_layFar (dt_rm 3 0 0) (dt_MC (fun v sh2 σ2 => v = none ∧ sh2 = dt_SH ++ ex ∧ (∀ b, b ≠ 49 → σ2 b = σ b) ∧ ∀ k, k < 256 → xFe (xEd s m tg) m σ2 8 k) 0 0) 0 0 3 [some (dt_R 40), some (dt_I (t : Int)), some (dt_I (m : Int)), some (dt_I b), some (dt_I (i : Int)), none, none, none] [] (dt_SH ++ ex) σ1 := by
    intro fu
    induction fu with
    | zero =>
      intro i σ1 hm ji jf jm
      exfalso
      omega
    | succ fu ih =>
      intro i σ1 hm ji jf jm
      refine dt_wfV fun hwf => ?_
      refine dt_iload dX12_layFar_3 rfl ?_
      refine dt_sipush dX12_layFar_5 (by decide) ?_
      refine dt_cm_ge (tgt := 35) dX12_layFar_8 (by decide) (by first | assumption | exact hwf _ _ | exact dt_b32 _ | omega | exact ⟨by omega, by omega⟩ | decide | exact ⟨by simp (disch := omega) only [dt_up_s, dt_up_k, dt_up_n]; omega, by simp (disch := omega) only [dt_up_s, dt_up_k, dt_up_n]; omega⟩) (by first | assumption | exact hwf _ _ | exact dt_b32 _ | omega | exact ⟨by omega, by omega⟩ | decide | exact ⟨by simp (disch := omega) only [dt_up_s, dt_up_k, dt_up_n]; omega, by simp (disch := omega) only [dt_up_s, dt_up_k, dt_up_n]; omega⟩) (fun c1 => ?_) (fun c1 => ?_)
      · skip
        refine dt_iconst dX12_layFar_35 ?_
        refine dt_istore dX12_layFar_36 (by decide) rfl ?_
        dsimp only [List.set]
        have lp38 : ∀ (fu : Nat) (n : Nat) (σ1 : dt_Mem), 9 - (n : Int) < (fu : Int) → (n ≤ 8) → (∀ b, b ≠ 49 → σ1 b = σ b) → (∀ k, k < 256 → xFe (xEd s m tg) m σ1 n k) →  dt_V mX12_layFar (dt_rm 3 0 0) (dt_MC (fun v sh2 σ2 => v = none ∧ sh2 = dt_SH ++ ex ∧ (∀ b, b ≠ 49 → σ2 b = σ b) ∧ ∀ k, k < 256 → xFe (xEd s m tg) m σ2 8 k) 0 0) 0 0 38 [some (dt_R 40), some (dt_I (t : Int)), some (dt_I (m : Int)), some (dt_I b), some (dt_I ((n + 1 : Nat) : Int)), none, none, none] [] (dt_SH ++ ex) σ1 := by
          intro fu
          induction fu with
          | zero =>
            intro n σ1 hm nl jf jy
            exfalso
            omega
          | succ fu ih =>
            intro n σ1 hm nl jf jy
            refine dt_wfV fun hwf => ?_
            have ih0 := ih
            refine dt_iload dX12_layFar_38 rfl ?_
            refine dt_bipush dX12_layFar_40 (by decide) ?_
            refine dt_cm_gt (tgt := 177) dX12_layFar_42 (by decide) (by first | assumption | exact hwf _ _ | exact dt_b32 _ | omega | exact ⟨by omega, by omega⟩ | decide | exact ⟨by simp (disch := omega) only [dt_up_s, dt_up_k, dt_up_n]; omega, by simp (disch := omega) only [dt_up_s, dt_up_k, dt_up_n]; omega⟩) (by first | assumption | exact hwf _ _ | exact dt_b32 _ | omega | exact ⟨by omega, by omega⟩ | decide | exact ⟨by simp (disch := omega) only [dt_up_s, dt_up_k, dt_up_n]; omega, by simp (disch := omega) only [dt_up_s, dt_up_k, dt_up_n]; omega⟩) (fun c2 => ?_) (fun c2 => ?_)
            · skip
              have hn8 : n = 8 := by omega
              refine dt_vret dX12_layFar_177 rfl (by decide) (by decide) ?_
              rw [hn8] at jy
              exact ⟨rfl, rfl, jf, jy⟩
            · skip
              refine dt_iconst dX12_layFar_45 ?_
              refine dt_istore dX12_layFar_46 (by decide) rfl ?_
              dsimp only [List.set]
              have lp48 : ∀ (fu : Nat) (k : Nat) (σ2 : dt_Mem), 256 - (k : Int) < (fu : Int) → (k ≤ 256) → (∀ b, b ≠ 49 → σ2 b = σ b) → (∀ j, j < 256 → (j < k → xFe (xEd s m tg) m σ2 (n + 1) j) ∧ (k ≤ j → xFe (xEd s m tg) m σ2 n j)) →  dt_V mX12_layFar (dt_rm 3 0 0) (dt_MC (fun v sh2 σ2 => v = none ∧ sh2 = dt_SH ++ ex ∧ (∀ b, b ≠ 49 → σ2 b = σ b) ∧ ∀ k, k < 256 → xFe (xEd s m tg) m σ2 8 k) 0 0) 0 0 48 [some (dt_R 40), some (dt_I (t : Int)), some (dt_I (m : Int)), some (dt_I b), some (dt_I ((n + 1 : Nat) : Int)), some (dt_I (k : Int)), none, none] [] (dt_SH ++ ex) σ2 := by
                intro fu
                induction fu with
                | zero =>
                  intro k σ2 hm kk kf kl
                  exfalso
                  omega
                | succ fu ih =>
                  intro k σ2 hm kk kf kl
                  refine dt_wfV fun hwf => ?_
                  have ih1 := ih
                  refine dt_iload dX12_layFar_48 rfl ?_
                  refine dt_sipush dX12_layFar_50 (by decide) ?_
                  refine dt_cm_ge (tgt := 171) dX12_layFar_53 (by decide) (by first | assumption | exact hwf _ _ | exact dt_b32 _ | omega | exact ⟨by omega, by omega⟩ | decide | exact ⟨by simp (disch := omega) only [dt_up_s, dt_up_k, dt_up_n]; omega, by simp (disch := omega) only [dt_up_s, dt_up_k, dt_up_n]; omega⟩) (by first | assumption | exact hwf _ _ | exact dt_b32 _ | omega | exact ⟨by omega, by omega⟩ | decide | exact ⟨by simp (disch := omega) only [dt_up_s, dt_up_k, dt_up_n]; omega, by simp (disch := omega) only [dt_up_s, dt_up_k, dt_up_n]; omega⟩) (fun c3 => ?_) (fun c3 => ?_)
                  · skip
                    refine dt_iinc dX12_layFar_171 rfl (by decide) rfl ?_
                    dsimp only [List.set]
                    refine dt_goto (tgt := 38) dX12_layFar_174 (by decide) ?_
                    exact dt_lb (ih0 (n + 1) σ2 (by omega) (by omega) kf (fun j hj => (kl j hj).1 (by omega))) ⟨rfl, rfl, rfl, rfl, (dt_ie rfl), trivial⟩
                  · skip
                    have hk256 : k < 256 := by omega
                    refine dt_iconst dX12_layFar_56 ?_
                    refine dt_istore dX12_layFar_57 (by decide) rfl ?_
                    dsimp only [List.set]
                    have lp59 : ∀ (fu : Nat) (w : Nat) (σ3 : dt_Mem), (tg.length : Int) - w < (fu : Int) → (w ≤ tg.length) → (∀ b, b ≠ 49 → σ3 b = σ b) → (xFo (xEd s m tg) m σ3 n k) → (xFk (xEd s m tg) m σ3 n k (fun w2 _ => w2 < w)) →  dt_V mX12_layFar (dt_rm 3 0 0) (dt_MC (fun v sh2 σ2 => v = none ∧ sh2 = dt_SH ++ ex ∧ (∀ b, b ≠ 49 → σ2 b = σ b) ∧ ∀ k, k < 256 → xFe (xEd s m tg) m σ2 8 k) 0 0) 0 0 59 [some (dt_R 40), some (dt_I (t : Int)), some (dt_I (m : Int)), some (dt_I b), some (dt_I ((n + 1 : Nat) : Int)), some (dt_I (k : Int)), some (dt_I (w : Int)), none] [] (dt_SH ++ ex) σ3 := by
                      intro fu
                      induction fu with
                      | zero =>
                        intro w σ3 hm wl lf lo lk
                        exfalso
                        omega
                      | succ fu ih =>
                        intro w σ3 hm wl lf lo lk
                        refine dt_wfV fun hwf => ?_
                        have ih2 := ih
                        refine dt_iload dX12_layFar_59 rfl ?_
                        refine dt_aloadn dX12_layFar_61 rfl rfl ?_
                        refine dt_getR dX12_layFar_62 pg_X12_19_12 rfl rfl ?_
                        refine dt_iconst dX12_layFar_65 ?_
                        refine dt_iloadn dX12_layFar_66 rfl rfl ?_
                        refine dt_iadd dX12_layFar_67 ?_
                        refine dt_iald dX12_layFar_68 rfl (by first | omega | (simp (disch := omega) only [dt_up_s, dt_up_k, dt_up_n]; omega)) (by first | omega | (simp (disch := omega) only [dt_up_s, dt_up_k, dt_up_n]; omega)) (by decide) ?_
                        rw [show ((3 : Int) + (t : Int)).toNat = 3 + t by omega, show σ3 44 (3 + t) = tg.length by rw [lf 44 (by decide)]; exact f1]
                        refine dt_cm_ge (tgt := 165) dX12_layFar_69 (by decide) (by first | assumption | exact hwf _ _ | exact dt_b32 _ | omega | exact ⟨by omega, by omega⟩ | decide | exact ⟨by simp (disch := omega) only [dt_up_s, dt_up_k, dt_up_n]; omega, by simp (disch := omega) only [dt_up_s, dt_up_k, dt_up_n]; omega⟩) (by first | assumption | exact hwf _ _ | exact dt_b32 _ | omega | exact ⟨by omega, by omega⟩ | decide | exact ⟨by simp (disch := omega) only [dt_up_s, dt_up_k, dt_up_n]; omega, by simp (disch := omega) only [dt_up_s, dt_up_k, dt_up_n]; omega⟩) (fun c4 => ?_) (fun c4 => ?_)
                        · skip
                          have hke := lk.e (fun _ w2 r2 hw2 => by obtain ⟨wd, z, _⟩ := hw2; have := dt_gl z; show w2 < w; omega)
                          refine dt_iinc dX12_layFar_165 rfl (by decide) rfl ?_
                          dsimp only [List.set]
                          refine dt_goto (tgt := 48) dX12_layFar_168 (by decide) ?_
                          have kl2 : ∀ j, j < 256 → (j < k + 1 → xFe (xEd s m tg) m σ3 (n + 1) j) ∧ (k + 1 ≤ j → xFe (xEd s m tg) m σ3 n j) := fun j hj => ⟨fun z => by
                            by_cases e : j = k
                            · subst e; exact hke
                            · exact (lo j hj).1 (by omega), fun z => (lo j hj).2 (by omega)⟩
                          exact dt_lb (ih1 (k + 1) σ3 (by omega) (by omega) lf kl2) ⟨rfl, rfl, rfl, rfl, rfl, rfl, trivial⟩
                        · skip
                          obtain ⟨wd, hwd⟩ := dt_lg (l := tg) (i := w) (by omega)
                          have hw : xW X t w wd := ⟨tg, htg, hwd⟩
                          obtain ⟨⟨k0, k1, k2, k3⟩, k4, k5, k6⟩ := hX.wd hw
                          have k8 := k3.2.2.2.1
                          have hl3 := xWs_l (s := s) (m := m) k8
                          refine dt_aloadn dX12_layFar_72 rfl rfl ?_
                          refine dt_getR dX12_layFar_73 pg_X12_35_12 rfl rfl ?_
                          refine dt_iload dX12_layFar_76 rfl ?_
                          refine dt_iald dX12_layFar_78 rfl (by first | omega | (simp (disch := omega) only [dt_up_s, dt_up_k, dt_up_n]; omega)) (by first | omega | (simp (disch := omega) only [dt_up_s, dt_up_k, dt_up_n]; omega)) (by decide) ?_
                          rw [Int.toNat_natCast]
                          refine dt_if_ge (tgt := 165) dX12_layFar_79 (by decide) (by first | assumption | exact hwf _ _ | exact dt_b32 _ | omega | exact ⟨by omega, by omega⟩ | decide | exact ⟨by simp (disch := omega) only [dt_up_s, dt_up_k, dt_up_n]; omega, by simp (disch := omega) only [dt_up_s, dt_up_k, dt_up_n]; omega⟩) (fun c5 => ?_) (fun c5 => ?_)
                          · skip
                            have hke := lk.e (fun z _ _ _ => absurd z (by omega))
                            refine dt_iinc dX12_layFar_165 rfl (by decide) rfl ?_
                            dsimp only [List.set]
                            refine dt_goto (tgt := 48) dX12_layFar_168 (by decide) ?_
                            have kl2 : ∀ j, j < 256 → (j < k + 1 → xFe (xEd s m tg) m σ3 (n + 1) j) ∧ (k + 1 ≤ j → xFe (xEd s m tg) m σ3 n j) := fun j hj => ⟨fun z => by
                              by_cases e : j = k
                              · subst e; exact hke
                              · exact (lo j hj).1 (by omega), fun z => (lo j hj).2 (by omega)⟩
                            exact dt_lb (ih1 (k + 1) σ3 (by omega) (by omega) lf kl2) ⟨rfl, rfl, rfl, rfl, rfl, rfl, trivial⟩
                          · skip
                            have hfk : σ3 49 k < 0 := by omega
                            refine dt_iconst dX12_layFar_82 ?_
                            refine dt_istore dX12_layFar_83 (by decide) rfl ?_
                            dsimp only [List.set]
                            have lp85 : ∀ (fu : Nat) (q : Nat) (σ4 : dt_Mem), ((xWs s m wd).length : Int) - q < (fu : Int) → (q ≤ (xWs s m wd).length) → (∀ b, b ≠ 49 → σ4 b = σ b) → (xFo (xEd s m tg) m σ4 n k) → (xFk (xEd s m tg) m σ4 n k (fun w2 r => w2 < w ∨ (w2 = w ∧ r ∈ (xWs s m wd).take q))) →  dt_V mX12_layFar (dt_rm 3 0 0) (dt_MC (fun v sh2 σ2 => v = none ∧ sh2 = dt_SH ++ ex ∧ (∀ b, b ≠ 49 → σ2 b = σ b) ∧ ∀ k, k < 256 → xFe (xEd s m tg) m σ2 8 k) 0 0) 0 0 85 [some (dt_R 40), some (dt_I (t : Int)), some (dt_I (m : Int)), some (dt_I b), some (dt_I ((n + 1 : Nat) : Int)), some (dt_I (k : Int)), some (dt_I (w : Int)), some (dt_I (q : Int))] [] (dt_SH ++ ex) σ4 := by
                              intro fu
                              induction fu with
                              | zero =>
                                intro q σ4 hm ql mf mo mk
                                exfalso
                                omega
                              | succ fu ih =>
                                intro q σ4 hm ql mf mo mk
                                refine dt_wfV fun hwf => ?_
                                refine dt_iload dX12_layFar_85 rfl ?_
                                refine dt_aloadn dX12_layFar_87 rfl rfl ?_
                                refine dt_iloadn dX12_layFar_88 rfl rfl ?_
                                refine dt_iload dX12_layFar_89 rfl ?_
                                refine dt_iloadn dX12_layFar_91 rfl rfl ?_
                                refine dt_iloadn dX12_layFar_92 rfl rfl ?_
                                refine dt_xV dX12_layFar_93 pc_X12_252 rfl (s_X12_waysOf (hX.kept (mf 44 (by decide))) hw hm8 hb) rfl rfl ⟨by decide, by decide⟩ rfl rfl (Nat.le_of_ble_eq_true rfl) ⟨by decide, by decide⟩ (dt_k3 ?_)
                                refine dt_cm_ge (tgt := 159) dX12_layFar_96 (by decide) (by first | assumption | exact hwf _ _ | exact dt_b32 _ | omega | exact ⟨by omega, by omega⟩ | decide | exact ⟨by simp (disch := omega) only [dt_up_s, dt_up_k, dt_up_n]; omega, by simp (disch := omega) only [dt_up_s, dt_up_k, dt_up_n]; omega⟩) (by first | assumption | exact hwf _ _ | exact dt_b32 _ | omega | exact ⟨by omega, by omega⟩ | decide | exact ⟨by simp (disch := omega) only [dt_up_s, dt_up_k, dt_up_n]; omega, by simp (disch := omega) only [dt_up_s, dt_up_k, dt_up_n]; omega⟩) (fun c6 => ?_) (fun c6 => ?_)
                                · skip
                                  refine dt_iinc dX12_layFar_159 rfl (by decide) rfl ?_
                                  dsimp only [List.set]
                                  refine dt_goto (tgt := 59) dX12_layFar_162 (by decide) ?_
                                  have lk2 : xFk (xEd s m tg) m σ4 n k (fun w2 _ => w2 < w + 1) := mk.ext (fun _ w2 r2 hw2 z => by
                                    by_cases e : w2 = w
                                    · subst e
                                      obtain ⟨wd2, g1, g2⟩ := hw2
                                      obtain rfl := Option.some.inj (hwd.symm.trans g1)
                                      exact Or.inr ⟨rfl, by rw [List.take_of_length_le (by omega)]; exact xWs_i.mpr g2⟩
                                    · exact Or.inl (by omega))
                                  exact dt_lb (ih2 (w + 1) σ4 (by omega) (by omega) mf mo lk2) ⟨rfl, rfl, rfl, rfl, rfl, rfl, rfl, trivial⟩
                                · skip
                                  obtain ⟨r, hr⟩ := dt_lg (l := xWs s m wd) (i := q) (by omega)
                                  have hEw : (xEd s m tg) w r := ⟨wd, hwd, xWs_i.mp (List.mem_of_getElem? hr)⟩
                                  have hr8 := (hE w r hEw).2
                                  have hor := Nat.or_lt_two_pow (n := 8) hk256 hr8
                                  refine dt_aloadn dX12_layFar_99 rfl rfl ?_
                                  refine dt_getR dX12_layFar_100 pg_X12_35_12 rfl rfl ?_
                                  refine dt_iload dX12_layFar_103 rfl ?_
                                  refine dt_aloadn dX12_layFar_105 rfl rfl ?_
                                  refine dt_getR dX12_layFar_106 pg_X12_35_12 rfl rfl ?_
                                  refine dt_iload dX12_layFar_109 rfl ?_
                                  refine dt_iald dX12_layFar_111 rfl (by first | omega | (simp (disch := omega) only [dt_up_s, dt_up_k, dt_up_n]; omega)) (by first | omega | (simp (disch := omega) only [dt_up_s, dt_up_k, dt_up_n]; omega)) (by decide) ?_
                                  rw [Int.toNat_natCast]
                                  refine dt_if_ge (tgt := 145) dX12_layFar_112 (by decide) (by first | assumption | exact hwf _ _ | exact dt_b32 _ | omega | exact ⟨by omega, by omega⟩ | decide | exact ⟨by simp (disch := omega) only [dt_up_s, dt_up_k, dt_up_n]; omega, by simp (disch := omega) only [dt_up_s, dt_up_k, dt_up_n]; omega⟩) (fun c7 => ?_) (fun c7 => ?_)
                                  · skip
                                    have hkp : ¬ σ4 49 k = -1 := by omega
                                    refine dt_aloadn dX12_layFar_145 rfl rfl ?_
                                    refine dt_getR dX12_layFar_146 pg_X12_35_12 rfl rfl ?_
                                    refine dt_iload dX12_layFar_149 rfl ?_
                                    refine dt_iald dX12_layFar_151 rfl (by first | omega | (simp (disch := omega) only [dt_up_s, dt_up_k, dt_up_n]; omega)) (by first | omega | (simp (disch := omega) only [dt_up_s, dt_up_k, dt_up_n]; omega)) (by decide) ?_
                                    rw [Int.toNat_natCast]
                                    refine dt_wfV fun hwf => ?_
                                    refine dt_iast dX12_layFar_152 rfl (by first | omega | (simp (disch := omega) only [dt_up_s, dt_up_k, dt_up_n]; omega)) (by first | omega | (simp (disch := omega) only [dt_up_s, dt_up_k, dt_up_n]; omega)) (by decide) (by first | assumption | exact hwf _ _ | exact dt_b32 _ | omega | exact ⟨by omega, by omega⟩ | decide | exact ⟨by simp (disch := omega) only [dt_up_s, dt_up_k, dt_up_n]; omega, by simp (disch := omega) only [dt_up_s, dt_up_k, dt_up_n]; omega⟩) ?_
                                    rw [Int.toNat_natCast, dt_up_id]
                                    refine dt_iinc dX12_layFar_153 rfl (by decide) rfl ?_
                                    dsimp only [List.set]
                                    refine dt_goto (tgt := 85) dX12_layFar_156 (by decide) ?_
                                    have mk2 : xFk (xEd s m tg) m σ4 n k (fun w2 r => w2 < w ∨ (w2 = w ∧ r ∈ (xWs s m wd).take (q + 1))) := mk.ext (fun z w2 r2 _ z2 => by
                                      rcases z2 with z2 | ⟨z2, z3⟩
                                      · exact Or.inl z2
                                      · rw [List.take_add_one, hr] at z3
                                        rcases List.mem_append.mp z3 with g | g
                                        · exact Or.inr ⟨z2, g⟩
                                        · exact absurd z (by omega))
                                    exact dt_lb (ih (q + 1) σ4 (by omega) (by omega) mf mo mk2) ⟨rfl, rfl, rfl, rfl, rfl, rfl, rfl, rfl, trivial⟩
                                  · skip
                                    have hlt : σ4 49 k < 0 := by omega
                                    refine dt_aloadn dX12_layFar_115 rfl rfl ?_
                                    refine dt_getR dX12_layFar_116 pg_X12_35_12 rfl rfl ?_
                                    refine dt_iload dX12_layFar_119 rfl ?_
                                    refine dt_aloadn dX12_layFar_121 rfl rfl ?_
                                    refine dt_iloadn dX12_layFar_122 rfl rfl ?_
                                    refine dt_iload dX12_layFar_123 rfl ?_
                                    refine dt_iload dX12_layFar_125 rfl ?_
                                    refine dt_iloadn dX12_layFar_127 rfl rfl ?_
                                    refine dt_xV dX12_layFar_128 pc_X12_256 rfl (s_X12_onBy (hX.kept (mf 44 (by decide))) hw hm8 hb hr) rfl rfl ⟨by decide, by decide⟩ rfl rfl (Nat.le_of_ble_eq_true rfl) ⟨by decide, by decide⟩ (dt_k3 ?_)
                                    refine dt_ior dX12_layFar_131 ?_
                                    rw [dj_or_nn (by omega) (by omega)]
                                    refine dt_iald dX12_layFar_132 rfl (by first | omega | (simp (disch := omega) only [dt_up_s, dt_up_k, dt_up_n]; omega)) (by first | omega | (simp (disch := omega) only [dt_up_s, dt_up_k, dt_up_n]; omega)) (by decide) ?_
                                    rw [Int.toNat_natCast]
                                    refine dt_iload dX12_layFar_133 rfl ?_
                                    refine dt_iconst dX12_layFar_135 ?_
                                    refine dt_isub dX12_layFar_136 ?_
                                    refine dt_cm_ne (tgt := 145) dX12_layFar_137 (by decide) (by first | assumption | exact hwf _ _ | exact dt_b32 _ | omega | exact ⟨by omega, by omega⟩ | decide | exact ⟨by simp (disch := omega) only [dt_up_s, dt_up_k, dt_up_n]; omega, by simp (disch := omega) only [dt_up_s, dt_up_k, dt_up_n]; omega⟩) (by first | assumption | exact hwf _ _ | exact dt_b32 _ | omega | exact ⟨by omega, by omega⟩ | decide | exact ⟨by simp (disch := omega) only [dt_up_s, dt_up_k, dt_up_n]; omega, by simp (disch := omega) only [dt_up_s, dt_up_k, dt_up_n]; omega⟩) (fun c8 => ?_) (fun c8 => ?_)
                                    · skip
                                      have hne : ¬ σ4 49 (k ||| r) = (n : Int) := by omega
                                      refine dt_aloadn dX12_layFar_145 rfl rfl ?_
                                      refine dt_getR dX12_layFar_146 pg_X12_35_12 rfl rfl ?_
                                      refine dt_iload dX12_layFar_149 rfl ?_
                                      refine dt_iald dX12_layFar_151 rfl (by first | omega | (simp (disch := omega) only [dt_up_s, dt_up_k, dt_up_n]; omega)) (by first | omega | (simp (disch := omega) only [dt_up_s, dt_up_k, dt_up_n]; omega)) (by decide) ?_
                                      rw [Int.toNat_natCast]
                                      refine dt_wfV fun hwf => ?_
                                      refine dt_iast dX12_layFar_152 rfl (by first | omega | (simp (disch := omega) only [dt_up_s, dt_up_k, dt_up_n]; omega)) (by first | omega | (simp (disch := omega) only [dt_up_s, dt_up_k, dt_up_n]; omega)) (by decide) (by first | assumption | exact hwf _ _ | exact dt_b32 _ | omega | exact ⟨by omega, by omega⟩ | decide | exact ⟨by simp (disch := omega) only [dt_up_s, dt_up_k, dt_up_n]; omega, by simp (disch := omega) only [dt_up_s, dt_up_k, dt_up_n]; omega⟩) ?_
                                      rw [Int.toNat_natCast, dt_up_id]
                                      refine dt_iinc dX12_layFar_153 rfl (by decide) rfl ?_
                                      dsimp only [List.set]
                                      refine dt_goto (tgt := 85) dX12_layFar_156 (by decide) ?_
                                      have mk2 : xFk (xEd s m tg) m σ4 n k (fun w2 r => w2 < w ∨ (w2 = w ∧ r ∈ (xWs s m wd).take (q + 1))) := by
                                        rcases mk with g | ⟨g1, g2, g3⟩
                                        · exact Or.inl g
                                        · refine Or.inr ⟨g1, g2, fun w2 r2 z hw2 => ?_⟩
                                          rcases z with z | ⟨z, z3⟩
                                          · exact g3 w2 r2 (Or.inl z) hw2
                                          · rw [List.take_add_one, hr] at z3
                                            rcases List.mem_append.mp z3 with g | g
                                            · exact g3 w2 r2 (Or.inr ⟨z, g⟩) hw2
                                            · obtain rfl := List.mem_singleton.mp g
                                              exact xFk_no hk256 hr8 mo g2 hEw hne
                                      exact dt_lb (ih (q + 1) σ4 (by omega) (by omega) mf mo mk2) ⟨rfl, rfl, rfl, rfl, rfl, rfl, rfl, rfl, trivial⟩
                                    · skip
                                      have heq : σ4 49 (k ||| r) = (n : Int) := by omega
                                      refine dt_iload dX12_layFar_140 rfl ?_
                                      refine dt_goto (tgt := 152) dX12_layFar_142 (by decide) ?_
                                      refine dt_wfV fun hwf => ?_
                                      refine dt_iast dX12_layFar_152 rfl (by first | omega | (simp (disch := omega) only [dt_up_s, dt_up_k, dt_up_n]; omega)) (by first | omega | (simp (disch := omega) only [dt_up_s, dt_up_k, dt_up_n]; omega)) (by decide) (by first | assumption | exact hwf _ _ | exact dt_b32 _ | omega | exact ⟨by omega, by omega⟩ | decide | exact ⟨by simp (disch := omega) only [dt_up_s, dt_up_k, dt_up_n]; omega, by simp (disch := omega) only [dt_up_s, dt_up_k, dt_up_n]; omega⟩) ?_
                                      rw [Int.toNat_natCast]
                                      refine dt_iinc dX12_layFar_153 rfl (by decide) rfl ?_
                                      dsimp only [List.set]
                                      refine dt_goto (tgt := 85) dX12_layFar_156 (by decide) ?_
                                      have hd : xFd (xEd s m tg) m (n + 1) k := by
                                        rcases mk with ⟨d, g1, g2, g3⟩ | ⟨g1, g2, g3⟩
                                        · omega
                                        · exact xFk_ye hk256 hr8 mo g1 g2 hEw heq
                                      exact dt_lb (ih (q + 1) _ (by omega) (by omega) (fun b hb => (dt_up_o hb).trans (mf b hb)) (fun j hj => ⟨fun z => ((mo j hj).1 z).kept (dt_up_k (by omega)), fun z => ((mo j hj).2 z).kept (dt_up_k (by omega))⟩) (Or.inl ⟨n + 1, Nat.le_refl _, dt_up_s, hd⟩)) ⟨rfl, rfl, rfl, rfl, rfl, rfl, rfl, rfl, trivial⟩
                            exact dt_lb (lp85 9 0 σ3 (by omega) (by omega) lf lo (lk.ext (fun _ w2 r2 _ z => z.elim id (fun z => by have z2 := z.2; simp at z2)))) ⟨rfl, rfl, rfl, rfl, rfl, rfl, rfl, rfl, trivial⟩
                    exact dt_lb (lp59 9 0 σ2 (by omega) (by omega) kf (fun j hj => ⟨(kl j hj).1, fun z => (kl j hj).2 (by omega)⟩) (((kl k hk256).2 (Nat.le_refl k)).k.ext (fun _ _ _ _ z => absurd z (Nat.not_lt_zero _)))) ⟨rfl, rfl, rfl, rfl, rfl, rfl, rfl, trivial⟩
              exact dt_lb (lp48 300 0 σ1 (by omega) (by omega) jf (fun j hj => ⟨fun z => absurd z (Nat.not_lt_zero j), fun _ => jy j hj⟩)) ⟨rfl, rfl, rfl, rfl, rfl, rfl, trivial⟩
        obtain rfl : i = 256 := by omega
        exact dt_lb (lp38 10 0 σ1 (by omega) (by omega) jf jm) ⟨rfl, rfl, rfl, rfl, (dt_ie rfl), trivial⟩
      · skip
        have hi : i < 256 := by omega
        refine dt_aloadn dX12_layFar_11 rfl rfl ?_
        refine dt_getR dX12_layFar_12 pg_X12_35_12 rfl rfl ?_
        refine dt_iload dX12_layFar_15 rfl ?_
        refine dt_iload dX12_layFar_17 rfl ?_
        refine dt_iloadn dX12_layFar_19 rfl rfl ?_
        refine dt_cm_ne (tgt := 27) dX12_layFar_20 (by decide) (by first | assumption | exact hwf _ _ | exact dt_b32 _ | omega | exact ⟨by omega, by omega⟩ | decide | exact ⟨by simp (disch := omega) only [dt_up_s, dt_up_k, dt_up_n]; omega, by simp (disch := omega) only [dt_up_s, dt_up_k, dt_up_n]; omega⟩) (by first | assumption | exact hwf _ _ | exact dt_b32 _ | omega | exact ⟨by omega, by omega⟩ | decide | exact ⟨by simp (disch := omega) only [dt_up_s, dt_up_k, dt_up_n]; omega, by simp (disch := omega) only [dt_up_s, dt_up_k, dt_up_n]; omega⟩) (fun c9 => ?_) (fun c9 => ?_)
        · skip
          have hnm : ¬ i = m := by omega
          refine dt_iconst dX12_layFar_27 ?_
          refine dt_wfV fun hwf => ?_
          refine dt_iast dX12_layFar_28 rfl (by first | omega | (simp (disch := omega) only [dt_up_s, dt_up_k, dt_up_n]; omega)) (by first | omega | (simp (disch := omega) only [dt_up_s, dt_up_k, dt_up_n]; omega)) (by decide) (by first | assumption | exact hwf _ _ | exact dt_b32 _ | omega | exact ⟨by omega, by omega⟩ | decide | exact ⟨by simp (disch := omega) only [dt_up_s, dt_up_k, dt_up_n]; omega, by simp (disch := omega) only [dt_up_s, dt_up_k, dt_up_n]; omega⟩) ?_
          rw [Int.toNat_natCast]
          refine dt_iinc dX12_layFar_29 rfl (by decide) rfl ?_
          dsimp only [List.set]
          refine dt_goto (tgt := 3) dX12_layFar_32 (by decide) ?_
          have jm2 : ∀ j, j < i + 1 → xFe (xEd s m tg) m (dt_up σ1 49 i (-1)) 0 j := fun j hj => by
            by_cases e : j = i
            · subst e; exact Or.inr ⟨dt_up_s, fun d hd hf => by
              obtain rfl : d = 0 := by omega
              exact hnm hf⟩
            · exact (jm j (by omega)).kept (dt_up_k e)
          exact dt_lb (ih (i + 1) _ (by omega) (by omega) (fun b hb => (dt_up_o hb).trans (jf b hb)) jm2) ⟨rfl, rfl, rfl, rfl, rfl, trivial⟩
        · skip
          have him : i = m := by omega
          refine dt_iconst dX12_layFar_23 ?_
          refine dt_goto (tgt := 28) dX12_layFar_24 (by decide) ?_
          refine dt_wfV fun hwf => ?_
          refine dt_iast dX12_layFar_28 rfl (by first | omega | (simp (disch := omega) only [dt_up_s, dt_up_k, dt_up_n]; omega)) (by first | omega | (simp (disch := omega) only [dt_up_s, dt_up_k, dt_up_n]; omega)) (by decide) (by first | assumption | exact hwf _ _ | exact dt_b32 _ | omega | exact ⟨by omega, by omega⟩ | decide | exact ⟨by simp (disch := omega) only [dt_up_s, dt_up_k, dt_up_n]; omega, by simp (disch := omega) only [dt_up_s, dt_up_k, dt_up_n]; omega⟩) ?_
          rw [Int.toNat_natCast]
          refine dt_iinc dX12_layFar_29 rfl (by decide) rfl ?_
          dsimp only [List.set]
          refine dt_goto (tgt := 3) dX12_layFar_32 (by decide) ?_
          have jm2 : ∀ j, j < i + 1 → xFe (xEd s m tg) m (dt_up σ1 49 i 0) 0 j := fun j hj => by
            by_cases e : j = i
            · subst e; exact Or.inl ⟨0, Nat.le_refl 0, dt_up_s, him, fun d hd => absurd hd (Nat.not_lt_zero d)⟩
            · exact (jm j (by omega)).kept (dt_up_k e)
          exact dt_lb (ih (i + 1) _ (by omega) (by omega) (fun b hb => (dt_up_o hb).trans (jf b hb)) jm2) ⟨rfl, rfl, rfl, rfl, rfl, trivial⟩
  exact dt_lb (lp3 300 0 σ (by omega) (by omega) (fun b _ => rfl) (fun j hj => absurd hj (Nat.not_lt_zero j))) ⟨rfl, rfl, rfl, rfl, rfl, trivial⟩
/-- the sets that a word takes marked ones to, j steps from what is meant -/
def xTk (σ : dt_Mem) (P : Nat → Prop) (ws : List Nat) (j k T : Nat) : Prop := ∃ S r, S < k ∧ P S ∧ r ∈ ws ∧ S ||| r = T ∧ σ 49 T = (j : Nat)
def xTq (σ : dt_Mem) (P : Nat → Prop) (ws : List Nat) (j k q T : Nat) : Prop := xTk σ P ws j k T ∨ (P k ∧ ∃ r ∈ ws.take q, k ||| r = T ∧ σ 49 T = (j : Nat))
theorem xTq_e {σ : dt_Mem} {P : Nat → Prop} {ws : List Nat} {j k q T : Nat} (h : ws.length ≤ q) : xTq σ P ws j k q T ↔ xTk σ P ws j (k + 1) T := by
  unfold xTq xTk
  rw [List.take_of_length_le h]
  constructor
  · rintro (⟨S, r, h1, h2⟩ | ⟨h1, r, h2, h3⟩)
    · exact ⟨S, r, by omega, h2⟩
    · exact ⟨k, r, by omega, h1, h2, h3⟩
  · rintro ⟨S, r, h1, h2, h3⟩
    by_cases e : S = k
    · subst e; exact Or.inr ⟨h2, r, h3⟩
    · exact Or.inl ⟨S, r, by omega, h2, h3⟩
theorem xTq_n {σ : dt_Mem} {P : Nat → Prop} {ws : List Nat} {j k q T : Nat} (h : ¬ P k) : xTq σ P ws j k q T ↔ xTk σ P ws j (k + 1) T := by
  unfold xTq xTk
  constructor
  · rintro (⟨S, r, h1, h2⟩ | ⟨h1, -⟩)
    · exact ⟨S, r, by omega, h2⟩
    · exact absurd h1 h
  · rintro ⟨S, r, h1, h2, h3⟩
    by_cases e : S = k
    · subst e; exact absurd h2 h
    · exact Or.inl ⟨S, r, by omega, h2, h3⟩
theorem xTq_0 {σ : dt_Mem} {P : Nat → Prop} {ws : List Nat} {j k T : Nat} : xTq σ P ws j k 0 T ↔ xTk σ P ws j k T := ⟨fun z => z.elim id (fun ⟨_, r, z, _⟩ => by simp at z), Or.inl⟩
theorem xTq_s {σ : dt_Mem} {P : Nat → Prop} {ws : List Nat} {j k q r T : Nat} (h : ws[q]? = some r) : xTq σ P ws j k (q + 1) T ↔ xTq σ P ws j k q T ∨ (P k ∧ k ||| r = T ∧ σ 49 T = (j : Nat)) := by
  unfold xTq
  rw [List.take_add_one, h]
  constructor
  · rintro (z | ⟨h1, r2, h2, h3⟩)
    · exact Or.inl (Or.inl z)
    · rcases List.mem_append.mp h2 with g | g
      · exact Or.inl (Or.inr ⟨h1, r2, g, h3⟩)
      · obtain rfl := List.mem_singleton.mp g
        exact Or.inr ⟨h1, h3⟩
  · rintro ((z | ⟨h1, r2, h2, h3⟩) | ⟨h1, h3⟩)
    · exact Or.inl z
    · exact Or.inr ⟨h1, r2, List.mem_append_left _ h2, h3⟩
    · exact Or.inr ⟨h1, r, List.mem_append_right _ List.mem_cons_self, h3⟩
theorem s_X12_takesOn {ex : List dt_Shp} {σ : dt_Mem} {X : dX} {t w m : Nat} {wd : Nat × List Nat} {b : Int} {s : Prop} {j : Nat} {P : Nat → Prop} (hX : rX σ X) (hw : xW X t w wd) (hm8 : m < 256) (hb : b = dt_b s) (hM : mP σ 47 256 P) (hj : j ≤ 8) : dt_Sp mX12_takesOn 3 0 0 [dt_R 40, dt_I (t : Int), dt_I (w : Int), dt_I (m : Int), dt_I b, dt_I ((j + 1 : Nat) : Int)] (dt_SH ++ ex) σ (fun v sh2 σ2 => v = some (dt_I (dt_b (∃ T, T < 256 ∧ xTk σ P (xWs s m wd) j 256 T))) ∧ sh2 = dt_SH ++ ex ∧ (∀ b, b ≠ 48 → σ2 b = σ b) ∧ mP σ2 48 256 (xTk σ P (xWs s m wd) j 256)) := by
  refine dt_Sp_of (by decide) (Nat.le_of_ble_eq_true rfl) ?_
  refine dt_wfV fun hwf => ?_
  have hb01 : b = 0 ∨ b = 1 := by rw [hb]; exact dt_b01 s
  obtain ⟨⟨k0, k1, k2, k3⟩, k4, k5, k6⟩ := hX.wd hw
  have k8 := k3.2.2.2.1
  have hl3 := xWs_l (s := s) (m := m) k8
  have hwf0 := hwf
  show dt_V _ _ _ 0 0 0 [some (dt_R 40), some (dt_I (t : Int)), some (dt_I (w : Int)), some (dt_I (m : Int)), some (dt_I b), some (dt_I ((j + 1 : Nat) : Int)), none, none, none, none] [] _ _
  refine dt_iconst dX12_takesOn_0 ?_
  refine dt_istore dX12_takesOn_1 (by decide) rfl ?_
  dsimp only [List.set]
  refine dt_iconst dX12_takesOn_3 ?_
  refine dt_istore dX12_takesOn_4 (by decide) rfl ?_
  dsimp only [List.set]
  have lp6 : ∀ (fu : Nat) (i : Nat) (σ1 : dt_Mem), 256 - (i : Int) < (fu : Int) → (i ≤ 256) → (∀ b, b ≠ 48 → σ1 b = σ b) → (mP σ1 48 i (fun _ => False)) →  dt_V mX12_takesOn (dt_rm 3 0 0) (dt_MC (fun v sh2 σ2 => v = some (dt_I (dt_b (∃ T, T < 256 ∧ xTk σ P (xWs s m wd) j 256 T))) ∧ sh2 = dt_SH ++ ex ∧ (∀ b, b ≠ 48 → σ2 b = σ b) ∧ mP σ2 48 256 (xTk σ P (xWs s m wd) j 256)) 0 0) 0 0 6 [some (dt_R 40), some (dt_I (t : Int)), some (dt_I (w : Int)), some (dt_I (m : Int)), some (dt_I b), some (dt_I ((j + 1 : Nat) : Int)), some (dt_I 0), some (dt_I (i : Int)), none, none] [] (dt_SH ++ ex) σ1 := by
    intro fu
    induction fu with
    | zero =>
      intro i σ1 hm ji jf jm
      exfalso
      omega
    | succ fu ih =>
      intro i σ1 hm ji jf jm
      refine dt_wfV fun hwf => ?_
      refine dt_iload dX12_takesOn_6 rfl ?_
      refine dt_sipush dX12_takesOn_8 (by decide) ?_
      refine dt_cm_ge (tgt := 28) dX12_takesOn_11 (by decide) (by first | assumption | exact hwf _ _ | exact dt_b32 _ | omega | exact ⟨by omega, by omega⟩ | decide | exact ⟨by simp (disch := omega) only [dt_up_s, dt_up_k, dt_up_n]; omega, by simp (disch := omega) only [dt_up_s, dt_up_k, dt_up_n]; omega⟩) (by first | assumption | exact hwf _ _ | exact dt_b32 _ | omega | exact ⟨by omega, by omega⟩ | decide | exact ⟨by simp (disch := omega) only [dt_up_s, dt_up_k, dt_up_n]; omega, by simp (disch := omega) only [dt_up_s, dt_up_k, dt_up_n]; omega⟩) (fun c1 => ?_) (fun c1 => ?_)
      · skip
        refine dt_iconst dX12_takesOn_28 ?_
        refine dt_istore dX12_takesOn_29 (by decide) rfl ?_
        dsimp only [List.set]
        have lp31 : ∀ (fu : Nat) (k : Nat) (σ2 : dt_Mem), 256 - (k : Int) < (fu : Int) → (k ≤ 256) → (∀ b, b ≠ 48 → σ2 b = σ b) → (mP σ2 48 256 (xTk σ P (xWs s m wd) j k)) →  dt_V mX12_takesOn (dt_rm 3 0 0) (dt_MC (fun v sh2 σ2 => v = some (dt_I (dt_b (∃ T, T < 256 ∧ xTk σ P (xWs s m wd) j 256 T))) ∧ sh2 = dt_SH ++ ex ∧ (∀ b, b ≠ 48 → σ2 b = σ b) ∧ mP σ2 48 256 (xTk σ P (xWs s m wd) j 256)) 0 0) 0 0 31 [some (dt_R 40), some (dt_I (t : Int)), some (dt_I (w : Int)), some (dt_I (m : Int)), some (dt_I b), some (dt_I ((j + 1 : Nat) : Int)), some (dt_I (dt_b (∃ T, T < 256 ∧ xTk σ P (xWs s m wd) j k T))), some (dt_I (k : Int)), none, none] [] (dt_SH ++ ex) σ2 := by
          intro fu
          induction fu with
          | zero =>
            intro k σ2 hm kk kf km
            exfalso
            omega
          | succ fu ih =>
            intro k σ2 hm kk kf km
            refine dt_wfV fun hwf => ?_
            have ih0 := ih
            refine dt_iload dX12_takesOn_31 rfl ?_
            refine dt_sipush dX12_takesOn_33 (by decide) ?_
            refine dt_cm_ge (tgt := 118) dX12_takesOn_36 (by decide) (by first | assumption | exact hwf _ _ | exact dt_b32 _ | omega | exact ⟨by omega, by omega⟩ | decide | exact ⟨by simp (disch := omega) only [dt_up_s, dt_up_k, dt_up_n]; omega, by simp (disch := omega) only [dt_up_s, dt_up_k, dt_up_n]; omega⟩) (by first | assumption | exact hwf _ _ | exact dt_b32 _ | omega | exact ⟨by omega, by omega⟩ | decide | exact ⟨by simp (disch := omega) only [dt_up_s, dt_up_k, dt_up_n]; omega, by simp (disch := omega) only [dt_up_s, dt_up_k, dt_up_n]; omega⟩) (fun c2 => ?_) (fun c2 => ?_)
            · skip
              refine dt_iload dX12_takesOn_118 rfl ?_
              refine dt_zret dX12_takesOn_120 rfl (by decide) (by decide) (dt_b01 _) ?_
              obtain rfl : k = 256 := by omega
              exact ⟨rfl, rfl, kf, km⟩
            · skip
              have hk256 : k < 256 := by omega
              refine dt_iconst dX12_takesOn_39 ?_
              refine dt_istore dX12_takesOn_40 (by decide) rfl ?_
              dsimp only [List.set]
              have lp42 : ∀ (fu : Nat) (q : Nat) (σ3 : dt_Mem), ((xWs s m wd).length : Int) - q < (fu : Int) → (q ≤ (xWs s m wd).length) → (∀ b, b ≠ 48 → σ3 b = σ b) → (mP σ3 48 256 (xTq σ P (xWs s m wd) j k q)) →  dt_V mX12_takesOn (dt_rm 3 0 0) (dt_MC (fun v sh2 σ2 => v = some (dt_I (dt_b (∃ T, T < 256 ∧ xTk σ P (xWs s m wd) j 256 T))) ∧ sh2 = dt_SH ++ ex ∧ (∀ b, b ≠ 48 → σ2 b = σ b) ∧ mP σ2 48 256 (xTk σ P (xWs s m wd) j 256)) 0 0) 0 0 42 [some (dt_R 40), some (dt_I (t : Int)), some (dt_I (w : Int)), some (dt_I (m : Int)), some (dt_I b), some (dt_I ((j + 1 : Nat) : Int)), some (dt_I (dt_b (∃ T, T < 256 ∧ xTq σ P (xWs s m wd) j k q T))), some (dt_I (k : Int)), some (dt_I (q : Int)), none] [] (dt_SH ++ ex) σ3 := by
                intro fu
                induction fu with
                | zero =>
                  intro q σ3 hm lq lf lm
                  exfalso
                  omega
                | succ fu ih =>
                  intro q σ3 hm lq lf lm
                  refine dt_wfV fun hwf => ?_
                  refine dt_iload dX12_takesOn_42 rfl ?_
                  refine dt_aloadn dX12_takesOn_44 rfl rfl ?_
                  refine dt_iloadn dX12_takesOn_45 rfl rfl ?_
                  refine dt_iloadn dX12_takesOn_46 rfl rfl ?_
                  refine dt_iloadn dX12_takesOn_47 rfl rfl ?_
                  refine dt_iload dX12_takesOn_48 rfl ?_
                  refine dt_xV dX12_takesOn_50 pc_X12_252 rfl (s_X12_waysOf (hX.kept (lf 44 (by decide))) hw hm8 hb) rfl rfl ⟨by decide, by decide⟩ rfl rfl (Nat.le_of_ble_eq_true rfl) ⟨by decide, by decide⟩ (dt_k3 ?_)
                  refine dt_cm_ge (tgt := 112) dX12_takesOn_53 (by decide) (by first | assumption | exact hwf _ _ | exact dt_b32 _ | omega | exact ⟨by omega, by omega⟩ | decide | exact ⟨by simp (disch := omega) only [dt_up_s, dt_up_k, dt_up_n]; omega, by simp (disch := omega) only [dt_up_s, dt_up_k, dt_up_n]; omega⟩) (by first | assumption | exact hwf _ _ | exact dt_b32 _ | omega | exact ⟨by omega, by omega⟩ | decide | exact ⟨by simp (disch := omega) only [dt_up_s, dt_up_k, dt_up_n]; omega, by simp (disch := omega) only [dt_up_s, dt_up_k, dt_up_n]; omega⟩) (fun c3 => ?_) (fun c3 => ?_)
                  · skip
                    have hqe : ∀ T, xTq σ P (xWs s m wd) j k q T ↔ xTk σ P (xWs s m wd) j (k + 1) T := fun T => xTq_e (by omega)
                    refine dt_iinc dX12_takesOn_112 rfl (by decide) rfl ?_
                    dsimp only [List.set]
                    refine dt_goto (tgt := 31) dX12_takesOn_115 (by decide) ?_
                    have hval : dt_b (∃ T, T < 256 ∧ xTq σ P (xWs s m wd) j k q T) = dt_b (∃ T, T < 256 ∧ xTk σ P (xWs s m wd) j (k + 1) T) := dt_bc ⟨fun ⟨T, a, c⟩ => ⟨T, a, (hqe T).mp c⟩, fun ⟨T, a, c⟩ => ⟨T, a, (hqe T).mpr c⟩⟩
                    exact dt_lb (ih0 (k + 1) σ3 (by omega) (by omega) lf (lm.ext (fun T _ => hqe T))) ⟨rfl, rfl, rfl, rfl, rfl, rfl, (dt_ie hval), rfl, trivial⟩
                  · skip
                    obtain ⟨r, hr⟩ := dt_lg (l := (xWs s m wd)) (i := q) (by omega)
                    refine dt_aloadn dX12_takesOn_56 rfl rfl ?_
                    refine dt_getR dX12_takesOn_57 pg_X12_28_12 rfl rfl ?_
                    refine dt_iload dX12_takesOn_60 rfl ?_
                    refine dt_zald dX12_takesOn_62 rfl (by first | omega | (simp (disch := omega) only [dt_up_s, dt_up_k, dt_up_n]; omega)) (by first | omega | (simp (disch := omega) only [dt_up_s, dt_up_k, dt_up_n]; omega)) (by decide) ?_
                    rw [Int.toNat_natCast, show σ3 47 k = dt_b (P k) by rw [lf 47 (by decide)]; exact hM k hk256]
                    refine dt_if_eq (tgt := 112) dX12_takesOn_63 (by decide) (by first | assumption | exact hwf _ _ | exact dt_b32 _ | omega | exact ⟨by omega, by omega⟩ | decide | exact ⟨by simp (disch := omega) only [dt_up_s, dt_up_k, dt_up_n]; omega, by simp (disch := omega) only [dt_up_s, dt_up_k, dt_up_n]; omega⟩) (fun c4 => ?_) (fun c4 => ?_)
                    · skip
                      try simp only [dt_b0, dt_b1, Decidable.not_not, Classical.not_not] at c4
                      have hnk : ¬ P k := by assumption
                      have hqe : ∀ T, xTq σ P (xWs s m wd) j k q T ↔ xTk σ P (xWs s m wd) j (k + 1) T := fun T => xTq_n hnk
                      refine dt_iinc dX12_takesOn_112 rfl (by decide) rfl ?_
                      dsimp only [List.set]
                      refine dt_goto (tgt := 31) dX12_takesOn_115 (by decide) ?_
                      have hval : dt_b (∃ T, T < 256 ∧ xTq σ P (xWs s m wd) j k q T) = dt_b (∃ T, T < 256 ∧ xTk σ P (xWs s m wd) j (k + 1) T) := dt_bc ⟨fun ⟨T, a, c⟩ => ⟨T, a, (hqe T).mp c⟩, fun ⟨T, a, c⟩ => ⟨T, a, (hqe T).mpr c⟩⟩
                      exact dt_lb (ih0 (k + 1) σ3 (by omega) (by omega) lf (lm.ext (fun T _ => hqe T))) ⟨rfl, rfl, rfl, rfl, rfl, rfl, (dt_ie hval), rfl, trivial⟩
                    · skip
                      try simp only [dt_b0, dt_b1, Decidable.not_not, Classical.not_not] at c4
                      have hpk : P k := by assumption
                      have hr8 : r < 256 := by
                        rcases xWs_i.mp (List.mem_of_getElem? hr) with z | z
                        · rw [z.2.2]; exact xCom_lt _
                        · exact (k3.2.2.2.2.2 r z.2).2
                      have hor := Nat.or_lt_two_pow (n := 8) hk256 hr8
                      refine dt_iload dX12_takesOn_66 rfl ?_
                      refine dt_aloadn dX12_takesOn_68 rfl rfl ?_
                      refine dt_iloadn dX12_takesOn_69 rfl rfl ?_
                      refine dt_iloadn dX12_takesOn_70 rfl rfl ?_
                      refine dt_iload dX12_takesOn_71 rfl ?_
                      refine dt_iload dX12_takesOn_73 rfl ?_
                      refine dt_xV dX12_takesOn_75 pc_X12_256 rfl (s_X12_onBy (hX.kept (lf 44 (by decide))) hw hm8 hb hr) rfl rfl ⟨by decide, by decide⟩ rfl rfl (Nat.le_of_ble_eq_true rfl) ⟨by decide, by decide⟩ (dt_k3 ?_)
                      refine dt_ior dX12_takesOn_78 ?_
                      rw [dj_or_nn (by omega) (by omega)]
                      refine dt_istore dX12_takesOn_79 (by decide) rfl ?_
                      dsimp only [List.set]
                      refine dt_aloadn dX12_takesOn_81 rfl rfl ?_
                      refine dt_getR dX12_takesOn_82 pg_X12_35_12 rfl rfl ?_
                      refine dt_iload dX12_takesOn_85 rfl ?_
                      refine dt_iald dX12_takesOn_87 rfl (by first | omega | (simp (disch := omega) only [dt_up_s, dt_up_k, dt_up_n]; omega)) (by first | omega | (simp (disch := omega) only [dt_up_s, dt_up_k, dt_up_n]; omega)) (by decide) ?_
                      rw [Int.toNat_natCast, show σ3 49 (k ||| r) = σ 49 (k ||| r) by rw [lf 49 (by decide)]]
                      have h49 := hwf0 49 (k ||| r)
                      refine dt_iload dX12_takesOn_88 rfl ?_
                      refine dt_iconst dX12_takesOn_90 ?_
                      refine dt_isub dX12_takesOn_91 ?_
                      refine dt_cm_ne (tgt := 106) dX12_takesOn_92 (by decide) h49 (by first | assumption | exact hwf _ _ | exact dt_b32 _ | omega | exact ⟨by omega, by omega⟩ | decide | exact ⟨by simp (disch := omega) only [dt_up_s, dt_up_k, dt_up_n]; omega, by simp (disch := omega) only [dt_up_s, dt_up_k, dt_up_n]; omega⟩) (fun c5 => ?_) (fun c5 => ?_)
                      · skip
                        have hne : ¬ σ 49 (k ||| r) = (j : Int) := by omega
                        refine dt_iinc dX12_takesOn_106 rfl (by decide) rfl ?_
                        dsimp only [List.set]
                        refine dt_goto (tgt := 42) dX12_takesOn_109 (by decide) ?_
                        have e1 : ∀ T, xTq σ P (xWs s m wd) j k (q + 1) T ↔ xTq σ P (xWs s m wd) j k q T := fun T => by
                          rw [xTq_s hr]
                          exact ⟨fun z => z.elim id (fun z => absurd (by rw [z.2.1]; exact z.2.2) hne), Or.inl⟩
                        have hval : dt_b (∃ T, T < 256 ∧ xTq σ P (xWs s m wd) j k q T) = dt_b (∃ T, T < 256 ∧ xTq σ P (xWs s m wd) j k (q + 1) T) := dt_bc ⟨fun ⟨T, a, c⟩ => ⟨T, a, (e1 T).mpr c⟩, fun ⟨T, a, c⟩ => ⟨T, a, (e1 T).mp c⟩⟩
                        exact dt_lb (ih (q + 1) σ3 (by omega) (by omega) lf (lm.ext (fun T _ => (e1 T).symm))) ⟨rfl, rfl, rfl, rfl, rfl, rfl, (dt_ie hval), rfl, rfl, trivial⟩
                      · skip
                        have heq : σ 49 (k ||| r) = (j : Int) := by omega
                        refine dt_aloadn dX12_takesOn_95 rfl rfl ?_
                        refine dt_getR dX12_takesOn_96 pg_X12_32_12 rfl rfl ?_
                        refine dt_iload dX12_takesOn_99 rfl ?_
                        refine dt_iconst dX12_takesOn_101 ?_
                        refine dt_zast dX12_takesOn_102 rfl (by first | omega | (simp (disch := omega) only [dt_up_s, dt_up_k, dt_up_n]; omega)) (by first | omega | (simp (disch := omega) only [dt_up_s, dt_up_k, dt_up_n]; omega)) (by decide) (by first | exact Or.inl rfl | exact Or.inr rfl | assumption | omega) ?_
                        rw [Int.toNat_natCast]
                        refine dt_iconst dX12_takesOn_103 ?_
                        refine dt_istore dX12_takesOn_104 (by decide) rfl ?_
                        dsimp only [List.set]
                        refine dt_iinc dX12_takesOn_106 rfl (by decide) rfl ?_
                        dsimp only [List.set]
                        refine dt_goto (tgt := 42) dX12_takesOn_109 (by decide) ?_
                        have hval : (1 : Int) = dt_b (∃ T, T < 256 ∧ xTq σ P (xWs s m wd) j k (q + 1) T) := (dt_bT ⟨k ||| r, hor, (xTq_s hr).mpr (Or.inr ⟨hpk, rfl, heq⟩)⟩).symm
                        have lm2 : mP (dt_up σ3 48 (k ||| r) 1) 48 256 (xTq σ P (xWs s m wd) j k (q + 1)) := (lm.mark (j := k ||| r)).ext (fun T _ => by
                          rw [xTq_s hr]
                          exact ⟨fun z => z.elim Or.inl (fun z => Or.inr ⟨hpk, z.symm, by rw [z]; exact heq⟩), fun z => z.elim Or.inl (fun z => Or.inr z.2.1.symm)⟩)
                        exact dt_lb (ih (q + 1) _ (by omega) (by omega) (fun b hb => (dt_up_o hb).trans (lf b hb)) lm2) ⟨rfl, rfl, rfl, rfl, rfl, rfl, (dt_ie hval), rfl, rfl, trivial⟩
              have e0 : ∀ T, xTq σ P (xWs s m wd) j k 0 T ↔ xTk σ P (xWs s m wd) j k T := fun T => xTq_0
              exact dt_lb (lp42 9 0 σ2 (by omega) (by omega) kf (km.ext (fun T _ => (e0 T).symm))) ⟨rfl, rfl, rfl, rfl, rfl, rfl, (dt_ie (dt_bc ⟨fun ⟨T, a, c⟩ => ⟨T, a, (e0 T).mpr c⟩, fun ⟨T, a, c⟩ => ⟨T, a, (e0 T).mp c⟩⟩)), rfl, rfl, trivial⟩
        obtain rfl : i = 256 := by omega
        have e0 : ∀ T, ¬ xTk σ P (xWs s m wd) j 0 T := fun T ⟨S, _, z, _⟩ => absurd z (Nat.not_lt_zero S)
        exact dt_lb (lp31 300 0 σ1 (by omega) (by omega) jf (jm.ext (fun T _ => ⟨fun z => z.elim, fun z => absurd z (e0 T)⟩))) ⟨rfl, rfl, rfl, rfl, rfl, rfl, (dt_ie (dt_bF (fun ⟨T, _, z⟩ => e0 T z)).symm), rfl, trivial⟩
      · skip
        refine dt_aloadn dX12_takesOn_14 rfl rfl ?_
        refine dt_getR dX12_takesOn_15 pg_X12_32_12 rfl rfl ?_
        refine dt_iload dX12_takesOn_18 rfl ?_
        refine dt_iconst dX12_takesOn_20 ?_
        refine dt_zast dX12_takesOn_21 rfl (by first | omega | (simp (disch := omega) only [dt_up_s, dt_up_k, dt_up_n]; omega)) (by first | omega | (simp (disch := omega) only [dt_up_s, dt_up_k, dt_up_n]; omega)) (by decide) (by first | exact Or.inl rfl | exact Or.inr rfl | assumption | omega) ?_
        refine dt_iinc dX12_takesOn_22 rfl (by decide) rfl ?_
        dsimp only [List.set]
        refine dt_goto (tgt := 6) dX12_takesOn_25 (by decide) ?_
        exact dt_lb (ih (i + 1) _ (by omega) (by omega) (fun b hb => (dt_up_o hb).trans (jf b hb)) (jm.put (dt_bF id).symm)) ⟨rfl, rfl, rfl, rfl, rfl, rfl, rfl, rfl, trivial⟩
  exact dt_lb (lp6 300 0 σ (by omega) (by omega) (fun b _ => rfl) (mP.z _ _ _)) ⟨rfl, rfl, rfl, rfl, rfl, rfl, rfl, rfl, trivial⟩
/-- what the first words, one word more, reach -/
theorem xPre_s {E : xG} (hE : xEok E) {m L i c w : Nat} (hL : xFd E m L 0) (hi : i < L) (hw : w < 8) {T : Nat} : xPre E m L (i + 1) (c * 8 + w) T ↔ ∃ S r, xPre E m L i c S ∧ E w r ∧ S ||| r = T ∧ xFd E m (L - i - 1) T := by
  constructor
  · rintro ⟨h1, h2⟩
    obtain ⟨S, c', w', r, h3, h4, h5, h6⟩ := h1
    have hw' := (hE w' r h4).1
    obtain rfl : c = c' := by omega
    obtain rfl : w = w' := by omega
    rw [show L - (i + 1) = L - i - 1 by omega] at h2
    refine ⟨S, r, ⟨h3, ?_⟩, h4, h5, h2⟩
    exact ⟨by rw [show L - i = L - i - 1 + 1 by omega]; exact ⟨w, r, h4, by rw [h5]; exact h2.1⟩, fun d hd hf => by
      obtain ⟨c2, h7⟩ := xR_F d i S _ h3 hf
      exact xFd_R hL hE (i + d) (by omega) c2 h7⟩
  · rintro ⟨S, r, h1, h2, h3, h4⟩
    exact ⟨⟨S, c, w, r, h1.1, h2, h3, rfl⟩, by rw [show L - (i + 1) = L - i - 1 by omega]; exact h4⟩
theorem xDig {c w i j : Nat} (hw : w < 8) (hj : j < i) : (c * 8 + w) / 8 ^ (i + 1 - 1 - j) % 8 = c / 8 ^ (i - 1 - j) % 8 := by
  rw [show i + 1 - 1 - j = 1 + (i - 1 - j) by omega, Nat.pow_add, ← Nat.div_div_eq_div_mul, show (c * 8 + w) / 8 ^ 1 = c by omega]
theorem s_X12_laySaying {ex : List dt_Shp} {σ : dt_Mem} {X : dX} {t m : Nat} {tg : List (Nat × List Nat)} {b : Int} {s : Prop} {L : Nat} (hX : rX σ X) (htg : X.1[t]? = some tg) (hm8 : m < 256) (hb : b = dt_b s) (hfe : ∀ k, k < 256 → xFe (xEd s m tg) m σ 8 k) (hL0 : σ 49 0 = (L : Nat)) (hd : xFd (xEd s m tg) m L 0) (hL8 : L ≤ 8) : dt_Sp mX12_laySaying 4 0 0 [dt_R 40, dt_I (t : Int), dt_I (m : Int), dt_I b] (dt_SH ++ ex) σ (fun v sh2 σ2 => v = none ∧ sh2 = dt_SH ++ ex ∧ (∀ b, b ≠ 47 → b ≠ 48 → b ≠ 50 → σ2 b = σ b) ∧ ∃ c, xMin (xEd s m tg) m L c ∧ ∀ j, j < L → σ2 50 j = ((c / 8 ^ (L - 1 - j) % 8 : Nat) : Int)) := by
  refine dt_Sp_of (by decide) (Nat.le_of_ble_eq_true rfl) ?_
  refine dt_wfV fun hwf => ?_
  obtain ⟨f1, f2, f3, f4, f5⟩ := hX.tg htg
  have hb01 : b = 0 ∨ b = 1 := by rw [hb]; exact dt_b01 s
  have hE : xEok (xEd s m tg) := xEd_ok ⟨f2, f5⟩
  show dt_V _ _ _ 0 0 0 [some (dt_R 40), some (dt_I (t : Int)), some (dt_I (m : Int)), some (dt_I b), none, none, none] [] _ _
  refine dt_aloadn dX12_laySaying_0 rfl rfl ?_
  refine dt_xV dX12_laySaying_1 pc_X12_234 rfl s_X12_startMeaning rfl rfl ⟨by decide, by decide⟩ rfl rfl (Nat.le_of_ble_eq_true rfl) ⟨by decide, by decide⟩ ?_
  intro vs shs σs hqs
  obtain ⟨rfl, hss, hfs, hMs⟩ := hqs
  obtain rfl := hss.symm
  refine dt_iconst dX12_laySaying_4 ?_
  refine dt_istore dX12_laySaying_5 (by decide) rfl ?_
  dsimp only [List.set]
  have lp7 : ∀ (fu : Nat) (i c : Nat) (σ1 : dt_Mem), (L : Int) - i < (fu : Int) → (i ≤ L) → (∀ b, b ≠ 47 → b ≠ 48 → b ≠ 50 → σ1 b = σ b) → (mP σ1 47 256 (xPre (xEd s m tg) m L i c)) → (xLs (xEd s m tg) m L i c) → (∀ j, j < i → σ1 50 j = ((c / 8 ^ (i - 1 - j) % 8 : Nat) : Int)) →  dt_V mX12_laySaying (dt_rm 4 0 0) (dt_MC (fun v sh2 σ2 => v = none ∧ sh2 = dt_SH ++ ex ∧ (∀ b, b ≠ 47 → b ≠ 48 → b ≠ 50 → σ2 b = σ b) ∧ ∃ c, xMin (xEd s m tg) m L c ∧ ∀ j, j < L → σ2 50 j = ((c / 8 ^ (L - 1 - j) % 8 : Nat) : Int)) 0 0) 0 0 7 [some (dt_R 40), some (dt_I (t : Int)), some (dt_I (m : Int)), some (dt_I b), some (dt_I (i : Int)), none, none] [] (dt_SH ++ ex) σ1 := by
    intro fu
    induction fu with
    | zero =>
      intro i c σ1 hm il jf jm js jd
      exfalso
      omega
    | succ fu ih =>
      intro i c σ1 hm il jf jm js jd
      refine dt_wfV fun hwf => ?_
      have ih0 := ih
      refine dt_iload dX12_laySaying_7 rfl ?_
      refine dt_aloadn dX12_laySaying_9 rfl rfl ?_
      refine dt_getR dX12_laySaying_10 pg_X12_35_12 rfl rfl ?_
      refine dt_iconst dX12_laySaying_13 ?_
      refine dt_iald dX12_laySaying_14 rfl (by first | omega | (simp (disch := omega) only [dt_up_s, dt_up_k, dt_up_n]; omega)) (by first | omega | (simp (disch := omega) only [dt_up_s, dt_up_k, dt_up_n]; omega)) (by decide) ?_
      rw [show Int.toNat 0 = 0 from rfl, show σ1 49 0 = (L : Nat) by rw [jf 49 (by decide) (by decide) (by decide)]; exact hL0]
      refine dt_cm_ge (tgt := 94) dX12_laySaying_15 (by decide) (by first | assumption | exact hwf _ _ | exact dt_b32 _ | omega | exact ⟨by omega, by omega⟩ | decide | exact ⟨by simp (disch := omega) only [dt_up_s, dt_up_k, dt_up_n]; omega, by simp (disch := omega) only [dt_up_s, dt_up_k, dt_up_n]; omega⟩) (by first | assumption | exact hwf _ _ | exact dt_b32 _ | omega | exact ⟨by omega, by omega⟩ | decide | exact ⟨by simp (disch := omega) only [dt_up_s, dt_up_k, dt_up_n]; omega, by simp (disch := omega) only [dt_up_s, dt_up_k, dt_up_n]; omega⟩) (fun c1 => ?_) (fun c1 => ?_)
      · skip
        have hiL : i = L := by omega
        refine dt_vret dX12_laySaying_94 rfl (by decide) (by decide) ?_
        rw [hiL] at jd js
        exact ⟨rfl, rfl, jf, c, xLs_e hE hL8 hd js, jd⟩
      · skip
        have iL : i < L := by omega
        refine dt_iconst dX12_laySaying_18 ?_
        refine dt_istore dX12_laySaying_19 (by decide) rfl ?_
        dsimp only [List.set]
        have lp21 : ∀ (fu : Nat) (w : Nat) (σ2 : dt_Mem), 9 - (w : Int) < (fu : Int) → (∀ b, b ≠ 47 → b ≠ 48 → b ≠ 50 → σ2 b = σ b) → (mP σ2 47 256 (xPre (xEd s m tg) m L i c)) → (∀ j, j < i → σ2 50 j = ((c / 8 ^ (i - 1 - j) % 8 : Nat) : Int)) → (∀ w2, w2 < w → ¬ (∃ S r, xPre (xEd s m tg) m L i c S ∧ (xEd s m tg) w2 r ∧ xFd (xEd s m tg) m (L - i - 1) (S ||| r))) → (w ≤ 8) →  dt_V mX12_laySaying (dt_rm 4 0 0) (dt_MC (fun v sh2 σ2 => v = none ∧ sh2 = dt_SH ++ ex ∧ (∀ b, b ≠ 47 → b ≠ 48 → b ≠ 50 → σ2 b = σ b) ∧ ∃ c, xMin (xEd s m tg) m L c ∧ ∀ j, j < L → σ2 50 j = ((c / 8 ^ (L - 1 - j) % 8 : Nat) : Int)) 0 0) 0 0 21 [some (dt_R 40), some (dt_I (t : Int)), some (dt_I (m : Int)), some (dt_I b), some (dt_I (i : Int)), some (dt_I (w : Int)), none] [] (dt_SH ++ ex) σ2 := by
          intro fu
          induction fu with
          | zero =>
            intro w σ2 hm kf km kd kn kw
            exfalso
            omega
          | succ fu ih =>
            intro w σ2 hm kf km kd kn kw
            refine dt_wfV fun hwf => ?_
            have ih1 := ih
            obtain ⟨wx, hgx⟩ := xLs_w iL js
            have hwx : w ≤ wx := Nat.le_of_not_lt (fun z => kn wx z hgx)
            obtain ⟨Sx, rx, hx1, hx2, hx3⟩ := id hgx
            obtain ⟨wdx, hx4, -⟩ := id hx2
            have hx5 := dt_gl hx4
            obtain ⟨wd, hwd⟩ := dt_lg (l := tg) (i := w) (by omega)
            have hw : xW X t w wd := ⟨tg, htg, hwd⟩
            obtain ⟨⟨k0, k1, k2, k3⟩, k4, k5, k6⟩ := hX.wd hw
            have k8 := k3.2.2.2.1
            have hl3 := xWs_l (s := s) (m := m) k8
            have hX2 : rX σ2 X := hX.kept (kf 44 (by decide) (by decide) (by decide))
            have k49 : σ2 49 0 = (L : Nat) := by rw [kf 49 (by decide) (by decide) (by decide)]; exact hL0
            refine dt_aloadn dX12_laySaying_21 rfl rfl ?_
            refine dt_iloadn dX12_laySaying_22 rfl rfl ?_
            refine dt_iload dX12_laySaying_23 rfl ?_
            refine dt_iloadn dX12_laySaying_25 rfl rfl ?_
            refine dt_iloadn dX12_laySaying_26 rfl rfl ?_
            refine dt_aloadn dX12_laySaying_27 rfl rfl ?_
            refine dt_getR dX12_laySaying_28 pg_X12_35_12 rfl rfl ?_
            refine dt_iconst dX12_laySaying_31 ?_
            refine dt_iald dX12_laySaying_32 rfl (by first | omega | (simp (disch := omega) only [dt_up_s, dt_up_k, dt_up_n]; omega)) (by first | omega | (simp (disch := omega) only [dt_up_s, dt_up_k, dt_up_n]; omega)) (by decide) ?_
            refine dt_iload dX12_laySaying_33 rfl ?_
            refine dt_isub dX12_laySaying_35 ?_
            rw [show Int.toNat 0 = 0 from rfl, k49, show (L : Int) - (i : Int) = ((L - i - 1 + 1 : Nat) : Int) by omega]
            refine dt_xV dX12_laySaying_36 pc_X12_259 rfl (s_X12_takesOn hX2 hw hm8 hb km (by omega)) rfl rfl ⟨by decide, by decide⟩ rfl rfl (Nat.le_of_ble_eq_true rfl) ⟨by decide, by decide⟩ ?_
            intro vt sht σt hqt
            obtain ⟨rfl, hst, hft, hMt⟩ := hqt
            obtain rfl := hst.symm
            have kft : ∀ b, b ≠ 47 → b ≠ 48 → b ≠ 50 → σt b = σ b := fun b h1 h2 h3 => (hft b h2).trans (kf b h1 h2 h3)
            have kdt : ∀ j, j < i → σt 50 j = ((c / 8 ^ (i - 1 - j) % 8 : Nat) : Int) := fun j hj => by rw [hft 50 (by decide)]; exact kd j hj
            have hgo : (∃ T, T < 256 ∧ xTk σ2 (xPre (xEd s m tg) m L i c) (xWs s m wd) (L - i - 1) 256 T) ↔ (∃ S r, xPre (xEd s m tg) m L i c S ∧ (xEd s m tg) w r ∧ xFd (xEd s m tg) m (L - i - 1) (S ||| r)) := by
              constructor
              · rintro ⟨T, -, S, r, h1, h2, h3, h4, h5⟩
                have hS := (xR_b hE _ _ _ h2.1).1
                have hr := (hE w r ⟨wd, hwd, xWs_i.mp h3⟩).2
                rw [← h4, kf 49 (by decide) (by decide) (by decide)] at h5
                exact ⟨S, r, h2, ⟨wd, hwd, xWs_i.mp h3⟩, ((hfe _ (Nat.or_lt_two_pow (n := 8) hS hr)).at (by omega)).mp h5⟩
              · rintro ⟨S, r, h1, h2, h3⟩
                obtain ⟨wd2, g1, g2⟩ := id h2
                obtain rfl := Option.some.inj (hwd.symm.trans g1)
                have hS := (xR_b hE _ _ _ h1.1).1
                have hr := (hE w r h2).2
                have hor := Nat.or_lt_two_pow (n := 8) hS hr
                exact ⟨S ||| r, hor, S, r, hS, h1, xWs_i.mpr g2, rfl, by rw [kf 49 (by decide) (by decide) (by decide)]; exact ((hfe _ hor).at (by omega)).mpr h3⟩
            refine dt_if_ne (tgt := 48) dX12_laySaying_39 (by decide) (by first | assumption | exact hwf _ _ | exact dt_b32 _ | omega | exact ⟨by omega, by omega⟩ | decide | exact ⟨by simp (disch := omega) only [dt_up_s, dt_up_k, dt_up_n]; omega, by simp (disch := omega) only [dt_up_s, dt_up_k, dt_up_n]; omega⟩) (fun c2 => ?_) (fun c2 => ?_)
            · skip
              try simp only [dt_b0, dt_b1, Decidable.not_not, Classical.not_not] at c2
              have hg : (∃ S r, xPre (xEd s m tg) m L i c S ∧ (xEd s m tg) w r ∧ xFd (xEd s m tg) m (L - i - 1) (S ||| r)) := hgo.mp (by assumption)
              refine dt_aloadn dX12_laySaying_48 rfl rfl ?_
              refine dt_getR dX12_laySaying_49 pg_X12_38_12 rfl rfl ?_
              refine dt_iload dX12_laySaying_52 rfl ?_
              refine dt_iload dX12_laySaying_54 rfl ?_
              refine dt_wfV fun hwf => ?_
              refine dt_iast dX12_laySaying_56 rfl (by first | omega | (simp (disch := omega) only [dt_up_s, dt_up_k, dt_up_n]; omega)) (by first | omega | (simp (disch := omega) only [dt_up_s, dt_up_k, dt_up_n]; omega)) (by decide) (by first | assumption | exact hwf _ _ | exact dt_b32 _ | omega | exact ⟨by omega, by omega⟩ | decide | exact ⟨by simp (disch := omega) only [dt_up_s, dt_up_k, dt_up_n]; omega, by simp (disch := omega) only [dt_up_s, dt_up_k, dt_up_n]; omega⟩) ?_
              rw [Int.toNat_natCast]
              obtain ⟨σw, ew⟩ : ∃ z, z = dt_up σt 50 i (w : Int) := ⟨_, rfl⟩
              rw [← ew]
              have wf : ∀ b, b ≠ 47 → b ≠ 48 → b ≠ 50 → σw b = σ b := fun b h1 h2 h3 => by rw [ew, dt_up_o h3]; exact kft b h1 h2 h3
              have wm : mP σw 48 256 (xTk σ2 (xPre (xEd s m tg) m L i c) (xWs s m wd) (L - i - 1) 256) := hMt.kept (by rw [ew]; exact dt_up_o (by decide))
              have wd50 : ∀ j, j < i + 1 → σw 50 j = (((c * 8 + w) / 8 ^ (i + 1 - 1 - j) % 8 : Nat) : Int) := fun j hj => by
                by_cases e : j = i
                · subst e
                  rw [ew, dt_up_s, show j + 1 - 1 - j = 0 by omega, Nat.pow_zero, Nat.div_one]
                  omega
                · rw [ew, dt_up_k e, kdt j (by omega), xDig (by omega) (by omega)]
              clear ew
              refine dt_iconst dX12_laySaying_57 ?_
              refine dt_istore dX12_laySaying_58 (by decide) rfl ?_
              dsimp only [List.set]
              have lp60 : ∀ (fu : Nat) (q : Nat) (σ4 : dt_Mem), 256 - (q : Int) < (fu : Int) → (q ≤ 256) → (∀ b, b ≠ 47 → σ4 b = σw b) → (mP σ4 47 q (xTk σ2 (xPre (xEd s m tg) m L i c) (xWs s m wd) (L - i - 1) 256)) →  dt_V mX12_laySaying (dt_rm 4 0 0) (dt_MC (fun v sh2 σ2 => v = none ∧ sh2 = dt_SH ++ ex ∧ (∀ b, b ≠ 47 → b ≠ 48 → b ≠ 50 → σ2 b = σ b) ∧ ∃ c, xMin (xEd s m tg) m L c ∧ ∀ j, j < L → σ2 50 j = ((c / 8 ^ (L - 1 - j) % 8 : Nat) : Int)) 0 0) 0 0 60 [some (dt_R 40), some (dt_I (t : Int)), some (dt_I (m : Int)), some (dt_I b), some (dt_I (i : Int)), some (dt_I (w : Int)), some (dt_I (q : Int))] [] (dt_SH ++ ex) σ4 := by
                intro fu
                induction fu with
                | zero =>
                  intro q σ4 hm ql qf qm
                  exfalso
                  omega
                | succ fu ih =>
                  intro q σ4 hm ql qf qm
                  refine dt_wfV fun hwf => ?_
                  refine dt_iload dX12_laySaying_60 rfl ?_
                  refine dt_sipush dX12_laySaying_62 (by decide) ?_
                  refine dt_cm_ge (tgt := 88) dX12_laySaying_65 (by decide) (by first | assumption | exact hwf _ _ | exact dt_b32 _ | omega | exact ⟨by omega, by omega⟩ | decide | exact ⟨by simp (disch := omega) only [dt_up_s, dt_up_k, dt_up_n]; omega, by simp (disch := omega) only [dt_up_s, dt_up_k, dt_up_n]; omega⟩) (by first | assumption | exact hwf _ _ | exact dt_b32 _ | omega | exact ⟨by omega, by omega⟩ | decide | exact ⟨by simp (disch := omega) only [dt_up_s, dt_up_k, dt_up_n]; omega, by simp (disch := omega) only [dt_up_s, dt_up_k, dt_up_n]; omega⟩) (fun c3 => ?_) (fun c3 => ?_)
                  · skip
                    refine dt_iinc dX12_laySaying_88 rfl (by decide) rfl ?_
                    dsimp only [List.set]
                    refine dt_goto (tgt := 7) dX12_laySaying_91 (by decide) ?_
                    obtain rfl : q = 256 := by omega
                    have qm2 : mP σ4 47 256 (xPre (xEd s m tg) m L (i + 1) (c * 8 + w)) := qm.ext (fun T hT => by
                      rw [xPre_s hE hd iL (by omega)]
                      constructor
                      · rintro ⟨S, r, h1, h2, h3, h4, h5⟩
                        rw [kf 49 (by decide) (by decide) (by decide)] at h5
                        exact ⟨S, r, h2, ⟨wd, hwd, xWs_i.mp h3⟩, h4, ((hfe T hT).at (by omega)).mp h5⟩
                      · rintro ⟨S, r, h1, h2, h3, h4⟩
                        obtain ⟨wd2, g1, g2⟩ := h2
                        obtain rfl := Option.some.inj (hwd.symm.trans g1)
                        exact ⟨S, r, (xR_b hE _ _ _ h1.1).1, h1, xWs_i.mpr g2, h3, by rw [kf 49 (by decide) (by decide) (by decide)]; exact ((hfe T hT).at (by omega)).mpr h4⟩)
                    exact dt_lb (ih0 (i + 1) (c * 8 + w) σ4 (by omega) (by omega) (fun b h1 h2 h3 => (qf b h1).trans (wf b h1 h2 h3)) qm2 (xLs_s hE hd iL js (by omega) hg kn) (fun j hj => by rw [qf 50 (by decide)]; exact wd50 j hj)) ⟨rfl, rfl, rfl, rfl, rfl, trivial⟩
                  · skip
                    have q256 : q < 256 := by omega
                    refine dt_aloadn dX12_laySaying_68 rfl rfl ?_
                    refine dt_getR dX12_laySaying_69 pg_X12_28_12 rfl rfl ?_
                    refine dt_iload dX12_laySaying_72 rfl ?_
                    refine dt_aloadn dX12_laySaying_74 rfl rfl ?_
                    refine dt_getR dX12_laySaying_75 pg_X12_32_12 rfl rfl ?_
                    refine dt_iload dX12_laySaying_78 rfl ?_
                    refine dt_zald dX12_laySaying_80 rfl (by first | omega | (simp (disch := omega) only [dt_up_s, dt_up_k, dt_up_n]; omega)) (by first | omega | (simp (disch := omega) only [dt_up_s, dt_up_k, dt_up_n]; omega)) (by decide) ?_
                    rw [Int.toNat_natCast, show σ4 48 q = dt_b (xTk σ2 (xPre (xEd s m tg) m L i c) (xWs s m wd) (L - i - 1) 256 q) by rw [qf 48 (by decide)]; exact wm q (by omega)]
                    refine dt_zast dX12_laySaying_81 rfl (by first | omega | (simp (disch := omega) only [dt_up_s, dt_up_k, dt_up_n]; omega)) (by first | omega | (simp (disch := omega) only [dt_up_s, dt_up_k, dt_up_n]; omega)) (by decide) (dt_b01 _) ?_
                    rw [Int.toNat_natCast]
                    refine dt_iinc dX12_laySaying_82 rfl (by decide) rfl ?_
                    dsimp only [List.set]
                    refine dt_goto (tgt := 60) dX12_laySaying_85 (by decide) ?_
                    exact dt_lb (ih (q + 1) _ (by omega) (by omega) (fun b hb => (dt_up_o hb).trans (qf b hb)) (qm.put rfl)) ⟨rfl, rfl, rfl, rfl, rfl, rfl, rfl, trivial⟩
              exact dt_lb (lp60 300 0 σw (by omega) (by omega) (fun b _ => rfl) (mP.z _ _ _)) ⟨rfl, rfl, rfl, rfl, rfl, rfl, rfl, trivial⟩
            · skip
              try simp only [dt_b0, dt_b1, Decidable.not_not, Classical.not_not] at c2
              have hng : ¬ (∃ S r, xPre (xEd s m tg) m L i c S ∧ (xEd s m tg) w r ∧ xFd (xEd s m tg) m (L - i - 1) (S ||| r)) := fun z => (show ¬ ∃ T, T < 256 ∧ xTk σ2 (xPre (xEd s m tg) m L i c) (xWs s m wd) (L - i - 1) 256 T by assumption) (hgo.mpr z)
              have hne : w ≠ wx := fun z => hng (z ▸ hgx)
              have kn2 : ∀ w2, w2 < w + 1 → ¬ (∃ S r, xPre (xEd s m tg) m L i c S ∧ (xEd s m tg) w2 r ∧ xFd (xEd s m tg) m (L - i - 1) (S ||| r)) := fun w2 hw2 => by
                by_cases e : w2 = w
                · subst e; exact hng
                · exact kn w2 (by omega)
              refine dt_iinc dX12_laySaying_42 rfl (by decide) rfl ?_
              dsimp only [List.set]
              refine dt_goto (tgt := 21) dX12_laySaying_45 (by decide) ?_
              exact dt_lb (ih (w + 1) σt (by omega) kft (km.kept (hft 47 (by decide))) kdt kn2 (by omega)) ⟨rfl, rfl, rfl, rfl, rfl, rfl, trivial⟩
        exact dt_lb (lp21 10 0 σ1 (by omega) jf jm jd (fun w2 hw2 => absurd hw2 (Nat.not_lt_zero w2)) (by omega)) ⟨rfl, rfl, rfl, rfl, rfl, rfl, trivial⟩
  exact dt_lb (lp7 10 0 0 σs (by omega) (by omega) (fun b h1 _ _ => hfs b h1) (hMs.ext (fun T _ => ⟨fun z => ⟨⟨z, rfl⟩, by have z : T = 0 := z; rw [z]; exact hd⟩, fun z => z.1.1⟩)) (xLs_0 hd) (fun j hj => absurd hj (Nat.not_lt_zero j))) ⟨rfl, rfl, rfl, rfl, rfl, trivial⟩
theorem s_X12_shortest {ex : List dt_Shp} {σ : dt_Mem} {A : dS} {day m what k : Int} (hI : rInv σ A) (h_day : dt_in32 day) (h_m : dt_in32 m) (h_what : dt_in32 what) (h_k : dt_in32 k) (hok : dX_ok (sN A)) : dt_Sp mX12_shortest 5 0 0 [dt_R 40, dt_I day, dt_I m, dt_I what, dt_I k] (dt_SH ++ ex) σ (fun v sh2 σ2 => v = some (dt_I (oShort A day m what k).1) ∧ sh2 = dt_SH ++ ex ∧ rEnd σ σ2 (oShort A day m what k).2) := by
  refine dt_Sp_of (by decide) (Nat.le_of_ble_eq_true rfl) ?_
  refine dt_wfV fun hwf => ?_
  show dt_V _ _ _ 0 0 0 [some (dt_R 40), some (dt_I day), some (dt_I m), some (dt_I what), some (dt_I k), none] [] _ _
  refine dt_aloadn dX12_shortest_0 rfl rfl ?_
  refine dt_iconst dX12_shortest_1 ?_
  refine dt_wfV fun hwf => ?_
  refine dt_putI dX12_shortest_2 pw_X12_53_12 rfl rfl (by first | assumption | exact hwf _ _ | exact dt_b32 _ | omega | exact ⟨by omega, by omega⟩ | decide | exact ⟨by simp (disch := omega) only [dt_up_s, dt_up_k, dt_up_n]; omega, by simp (disch := omega) only [dt_up_s, dt_up_k, dt_up_n]; omega⟩) ?_
  obtain ⟨σa, ea⟩ : ∃ z, z = dt_up σ 40 0 0 := ⟨_, rfl⟩
  rw [← ea]
  have hA := hI.up40 0 0 (by decide)
  rw [← ea] at hA
  have fa : ∀ b, (b < 40 ∨ 55 ≤ b) → σa b = σ b := fun b hb => by rw [ea]; exact dt_up_o (by omega)
  clear ea
  refine dt_wfV fun hwf => ?_
  have hX := hA.X hok
  have e0 := hX.t
  have e2 := hX.2.1
  have e7 := hA.2.2.1.2
  refine dt_aloadn dX12_shortest_5 rfl rfl ?_
  refine dt_getI dX12_shortest_6 pg_X12_179_12 rfl rfl ?_
  refine dt_if_ne (tgt := 15) dX12_shortest_9 (by decide) (by first | assumption | exact hwf _ _ | exact dt_b32 _ | omega | exact ⟨by omega, by omega⟩ | decide | exact ⟨by simp (disch := omega) only [dt_up_s, dt_up_k, dt_up_n]; omega, by simp (disch := omega) only [dt_up_s, dt_up_k, dt_up_n]; omega⟩) (fun c1 => ?_) (fun c1 => ?_)
  · skip
    rw [e7] at c1
    have hn : ¬ (sN A).1 = [] := by simpa [dt_b0] using c1
    have hn0 : 0 < (sN A).1.length := Nat.pos_of_ne_zero (fun q => hn (dt_nn.mp q))
    refine dt_iloadn dX12_shortest_15 rfl rfl ?_
    refine dt_xS dX12_shortest_16 pc_X12_223 (s_X12_isDay (by first | assumption | exact hwf _ _ | exact dt_b32 _ | omega | exact ⟨by omega, by omega⟩ | decide | exact ⟨by simp (disch := omega) only [dt_up_s, dt_up_k, dt_up_n]; omega, by simp (disch := omega) only [dt_up_s, dt_up_k, dt_up_n]; omega⟩)) rfl rfl ⟨by decide, by decide⟩ (Nat.le_of_ble_eq_true rfl) ⟨by decide, by decide⟩ (dt_k3 ?_)
    refine dt_if_eq (tgt := 50) dX12_shortest_19 (by decide) (by first | assumption | exact hwf _ _ | exact dt_b32 _ | omega | exact ⟨by omega, by omega⟩ | decide | exact ⟨by simp (disch := omega) only [dt_up_s, dt_up_k, dt_up_n]; omega, by simp (disch := omega) only [dt_up_s, dt_up_k, dt_up_n]; omega⟩) (fun c2 => ?_) (fun c2 => ?_)
    · skip
      try simp only [dt_b0, dt_b1, Decidable.not_not, Classical.not_not] at c2
      refine dt_ldc dX12_shortest_50 pk_X12_73 ?_
      refine dt_iret dX12_shortest_52 rfl (by decide) (by decide) ?_
      have e : oShort A day m what k = (-1000001, A) := by
        unfold oShort
        rw [if_neg hn, if_pos (by omega)]
      rw [e]
      exact ⟨rfl, rfl, hA, fa⟩
    · skip
      try simp only [dt_b0, dt_b1, Decidable.not_not, Classical.not_not] at c2
      refine dt_iloadn dX12_shortest_22 rfl rfl ?_
      refine dt_ui2l dX12_shortest_23 (by first | assumption | exact hwf _ _ | exact dt_b32 _ | omega | exact ⟨by omega, by omega⟩ | decide | exact ⟨by simp (disch := omega) only [dt_up_s, dt_up_k, dt_up_n]; omega, by simp (disch := omega) only [dt_up_s, dt_up_k, dt_up_n]; omega⟩) ?_
      refine dt_lconst (x := 0) dX12_shortest_24 (by decide) ?_
      refine dt_ldc2 dX12_shortest_25 pk_X12_84 ?_
      refine dt_xS dX12_shortest_28 pc_X12_63 (s_X12_in (by first | exact ⟨by omega, by omega⟩ | decide) (by first | exact ⟨by omega, by omega⟩ | decide) (by first | exact ⟨by omega, by omega⟩ | decide)) rfl rfl ⟨by decide, by decide⟩ (Nat.le_of_ble_eq_true rfl) ⟨by decide, by decide⟩ (dt_k3 ?_)
      refine dt_if_eq (tgt := 50) dX12_shortest_31 (by decide) (by first | assumption | exact hwf _ _ | exact dt_b32 _ | omega | exact ⟨by omega, by omega⟩ | decide | exact ⟨by simp (disch := omega) only [dt_up_s, dt_up_k, dt_up_n]; omega, by simp (disch := omega) only [dt_up_s, dt_up_k, dt_up_n]; omega⟩) (fun c3 => ?_) (fun c3 => ?_)
      · skip
        try simp only [dt_b0, dt_b1, Decidable.not_not, Classical.not_not] at c3
        refine dt_ldc dX12_shortest_50 pk_X12_73 ?_
        refine dt_iret dX12_shortest_52 rfl (by decide) (by decide) ?_
        have e : oShort A day m what k = (-1000001, A) := by
          unfold oShort
          rw [if_neg hn, if_pos (by omega)]
        rw [e]
        exact ⟨rfl, rfl, hA, fa⟩
      · skip
        try simp only [dt_b0, dt_b1, Decidable.not_not, Classical.not_not] at c3
        refine dt_iloadn dX12_shortest_34 rfl rfl ?_
        refine dt_ui2l dX12_shortest_35 (by first | assumption | exact hwf _ _ | exact dt_b32 _ | omega | exact ⟨by omega, by omega⟩ | decide | exact ⟨by simp (disch := omega) only [dt_up_s, dt_up_k, dt_up_n]; omega, by simp (disch := omega) only [dt_up_s, dt_up_k, dt_up_n]; omega⟩) ?_
        refine dt_lconst (x := 0) dX12_shortest_36 (by decide) ?_
        refine dt_lconst (x := 1) dX12_shortest_37 (by decide) ?_
        refine dt_xS dX12_shortest_38 pc_X12_63 (s_X12_in (by first | exact ⟨by omega, by omega⟩ | decide) (by first | exact ⟨by omega, by omega⟩ | decide) (by first | exact ⟨by omega, by omega⟩ | decide)) rfl rfl ⟨by decide, by decide⟩ (Nat.le_of_ble_eq_true rfl) ⟨by decide, by decide⟩ (dt_k3 ?_)
        refine dt_if_eq (tgt := 50) dX12_shortest_41 (by decide) (by first | assumption | exact hwf _ _ | exact dt_b32 _ | omega | exact ⟨by omega, by omega⟩ | decide | exact ⟨by simp (disch := omega) only [dt_up_s, dt_up_k, dt_up_n]; omega, by simp (disch := omega) only [dt_up_s, dt_up_k, dt_up_n]; omega⟩) (fun c4 => ?_) (fun c4 => ?_)
        · skip
          try simp only [dt_b0, dt_b1, Decidable.not_not, Classical.not_not] at c4
          refine dt_ldc dX12_shortest_50 pk_X12_73 ?_
          refine dt_iret dX12_shortest_52 rfl (by decide) (by decide) ?_
          have e : oShort A day m what k = (-1000001, A) := by
            unfold oShort
            rw [if_neg hn, if_pos (by omega)]
          rw [e]
          exact ⟨rfl, rfl, hA, fa⟩
        · skip
          try simp only [dt_b0, dt_b1, Decidable.not_not, Classical.not_not] at c4
          refine dt_iload dX12_shortest_44 rfl ?_
          refine dt_iconst dX12_shortest_46 ?_
          refine dt_cm_ge (tgt := 53) dX12_shortest_47 (by decide) (by first | assumption | exact hwf _ _ | exact dt_b32 _ | omega | exact ⟨by omega, by omega⟩ | decide | exact ⟨by simp (disch := omega) only [dt_up_s, dt_up_k, dt_up_n]; omega, by simp (disch := omega) only [dt_up_s, dt_up_k, dt_up_n]; omega⟩) (by first | assumption | exact hwf _ _ | exact dt_b32 _ | omega | exact ⟨by omega, by omega⟩ | decide | exact ⟨by simp (disch := omega) only [dt_up_s, dt_up_k, dt_up_n]; omega, by simp (disch := omega) only [dt_up_s, dt_up_k, dt_up_n]; omega⟩) (fun c5 => ?_) (fun c5 => ?_)
          · skip
            refine dt_aloadn dX12_shortest_53 rfl rfl ?_
            refine dt_iloadn dX12_shortest_54 rfl rfl ?_
            refine dt_xV dX12_shortest_55 pc_X12_231 rfl (s_X12_tongueOf hX (by omega) (by omega) (by omega)) rfl rfl ⟨by decide, by decide⟩ rfl rfl (Nat.le_of_ble_eq_true rfl) ⟨by decide, by decide⟩ (dt_k3 ?_)
            obtain ⟨t, ht⟩ : ∃ t : Nat, day % ((sN A).1.length : Int) = t := ⟨(day % ((sN A).1.length : Int)).toNat, by have := Int.emod_nonneg day (b := ((sN A).1.length : Int)) (by omega); omega⟩
            have ht7 : t < (sN A).1.length := by have := Int.emod_lt_of_pos day (b := ((sN A).1.length : Int)) (by omega); omega
            rw [ht]
            obtain ⟨tg, htg⟩ := dt_lg ht7
            obtain ⟨m, rfl⟩ : ∃ z : Nat, m = z := ⟨m.toNat, by omega⟩
            refine dt_istore dX12_shortest_58 (by decide) rfl ?_
            dsimp only [List.set]
            refine dt_aloadn dX12_shortest_60 rfl rfl ?_
            refine dt_iload dX12_shortest_61 rfl ?_
            refine dt_iloadn dX12_shortest_63 rfl rfl ?_
            refine dt_iloadn dX12_shortest_64 rfl rfl ?_
            refine dt_iconst dX12_shortest_65 ?_
            refine dt_cm_ne (tgt := 73) dX12_shortest_66 (by decide) (by first | assumption | exact hwf _ _ | exact dt_b32 _ | omega | exact ⟨by omega, by omega⟩ | decide | exact ⟨by simp (disch := omega) only [dt_up_s, dt_up_k, dt_up_n]; omega, by simp (disch := omega) only [dt_up_s, dt_up_k, dt_up_n]; omega⟩) (by first | assumption | exact hwf _ _ | exact dt_b32 _ | omega | exact ⟨by omega, by omega⟩ | decide | exact ⟨by simp (disch := omega) only [dt_up_s, dt_up_k, dt_up_n]; omega, by simp (disch := omega) only [dt_up_s, dt_up_k, dt_up_n]; omega⟩) (fun c6 => ?_) (fun c6 => ?_)
            · skip
              have hbb : (0 : Int) = dt_b (what = 1) := (dt_bF (by omega)).symm
              refine dt_iconst dX12_shortest_73 ?_
              refine dt_xV dX12_shortest_74 pc_X12_263 rfl (s_X12_layFar hX htg (by omega) hbb) rfl rfl ⟨by decide, by decide⟩ rfl rfl (Nat.le_of_ble_eq_true rfl) ⟨by decide, by decide⟩ ?_
              intro vf shf σf hqf
              obtain ⟨rfl, hsf, hff, hYf⟩ := hqf
              obtain rfl := hsf.symm
              refine dt_wfV fun hwf => ?_
              refine dt_aloadn dX12_shortest_77 rfl rfl ?_
              refine dt_getR dX12_shortest_78 pg_X12_35_12 rfl rfl ?_
              refine dt_iconst dX12_shortest_81 ?_
              refine dt_iald dX12_shortest_82 rfl (by first | omega | (simp (disch := omega) only [dt_up_s, dt_up_k, dt_up_n]; omega)) (by first | omega | (simp (disch := omega) only [dt_up_s, dt_up_k, dt_up_n]; omega)) (by decide) ?_
              rw [show Int.toNat 0 = 0 from rfl]
              refine dt_if_ge (tgt := 89) dX12_shortest_83 (by decide) (by first | assumption | exact hwf _ _ | exact dt_b32 _ | omega | exact ⟨by omega, by omega⟩ | decide | exact ⟨by simp (disch := omega) only [dt_up_s, dt_up_k, dt_up_n]; omega, by simp (disch := omega) only [dt_up_s, dt_up_k, dt_up_n]; omega⟩) (fun c7 => ?_) (fun c7 => ?_)
              · skip
                obtain ⟨L, h1, h2, h3⟩ | ⟨h1, h2⟩ := hYf 0 (by decide)
                rotate_left
                · omega
                obtain ⟨f1, f2, f3, f4, f5⟩ := hX.tg htg
                have hE : xEok (xEd (what = 1) m tg) := xEd_ok ⟨f2, f5⟩
                refine dt_iload dX12_shortest_89 rfl ?_
                refine dt_if_lt (tgt := 105) dX12_shortest_91 (by decide) (by first | assumption | exact hwf _ _ | exact dt_b32 _ | omega | exact ⟨by omega, by omega⟩ | decide | exact ⟨by simp (disch := omega) only [dt_up_s, dt_up_k, dt_up_n]; omega, by simp (disch := omega) only [dt_up_s, dt_up_k, dt_up_n]; omega⟩) (fun c8 => ?_) (fun c8 => ?_)
                · skip
                  refine dt_iload dX12_shortest_105 rfl ?_
                  refine dt_if_ge (tgt := 119) dX12_shortest_107 (by decide) (by first | assumption | exact hwf _ _ | exact dt_b32 _ | omega | exact ⟨by omega, by omega⟩ | decide | exact ⟨by simp (disch := omega) only [dt_up_s, dt_up_k, dt_up_n]; omega, by simp (disch := omega) only [dt_up_s, dt_up_k, dt_up_n]; omega⟩) (fun c9 => ?_) (fun c9 => ?_)
                  · skip
                    first | exact absurd c9 (by omega) | exact absurd c9 (by decide) | exact absurd rfl c9
                  · skip
                    refine dt_aloadn dX12_shortest_110 rfl rfl ?_
                    refine dt_getR dX12_shortest_111 pg_X12_35_12 rfl rfl ?_
                    refine dt_iconst dX12_shortest_114 ?_
                    refine dt_iald dX12_shortest_115 rfl (by first | omega | (simp (disch := omega) only [dt_up_s, dt_up_k, dt_up_n]; omega)) (by first | omega | (simp (disch := omega) only [dt_up_s, dt_up_k, dt_up_n]; omega)) (by decide) ?_
                    rw [show Int.toNat 0 = 0 from rfl]
                    refine dt_goto (tgt := 121) dX12_shortest_116 (by decide) ?_
                    refine dt_iret dX12_shortest_121 rfl (by decide) (by decide) ?_
                    obtain ⟨c, hcR⟩ := xF_R h3.1
                    obtain ⟨c0, -, hbst⟩ := xBst_e hcR (xFd_R h3 hE)
                    have hmin : xMin (xEd (what = 1) m tg) m L c0 := ⟨h1, hbst⟩
                    have e : oShort A day m what k = ((L : Int), A) := by
                      unfold oShort
                      rw [if_neg hn, if_neg (by omega), ht, Int.toNat_natCast, Int.toNat_natCast, dt_gd htg, xSht_y hmin, if_pos (by omega)]
                    rw [e]
                    rw [h2]
                    exact ⟨rfl, rfl, hA.sy (fun k _ => by rw [hff 40 (by decide)]) (fun b h1 h2 h3 => hff b (by omega)), fun b hb => (hff b (by omega)).trans (fa b hb)⟩
                · skip
                  refine dt_iload dX12_shortest_94 rfl ?_
                  refine dt_aloadn dX12_shortest_96 rfl rfl ?_
                  refine dt_getR dX12_shortest_97 pg_X12_35_12 rfl rfl ?_
                  refine dt_iconst dX12_shortest_100 ?_
                  refine dt_iald dX12_shortest_101 rfl (by first | omega | (simp (disch := omega) only [dt_up_s, dt_up_k, dt_up_n]; omega)) (by first | omega | (simp (disch := omega) only [dt_up_s, dt_up_k, dt_up_n]; omega)) (by decide) ?_
                  rw [show Int.toNat 0 = 0 from rfl]
                  refine dt_cm_lt (tgt := 122) dX12_shortest_102 (by decide) (by first | assumption | exact hwf _ _ | exact dt_b32 _ | omega | exact ⟨by omega, by omega⟩ | decide | exact ⟨by simp (disch := omega) only [dt_up_s, dt_up_k, dt_up_n]; omega, by simp (disch := omega) only [dt_up_s, dt_up_k, dt_up_n]; omega⟩) (by first | assumption | exact hwf _ _ | exact dt_b32 _ | omega | exact ⟨by omega, by omega⟩ | decide | exact ⟨by simp (disch := omega) only [dt_up_s, dt_up_k, dt_up_n]; omega, by simp (disch := omega) only [dt_up_s, dt_up_k, dt_up_n]; omega⟩) (fun c10 => ?_) (fun c10 => ?_)
                  · skip
                    refine dt_aloadn dX12_shortest_122 rfl rfl ?_
                    refine dt_iload dX12_shortest_123 rfl ?_
                    refine dt_iloadn dX12_shortest_125 rfl rfl ?_
                    refine dt_iloadn dX12_shortest_126 rfl rfl ?_
                    refine dt_iconst dX12_shortest_127 ?_
                    refine dt_cm_ne (tgt := 135) dX12_shortest_128 (by decide) (by first | assumption | exact hwf _ _ | exact dt_b32 _ | omega | exact ⟨by omega, by omega⟩ | decide | exact ⟨by simp (disch := omega) only [dt_up_s, dt_up_k, dt_up_n]; omega, by simp (disch := omega) only [dt_up_s, dt_up_k, dt_up_n]; omega⟩) (by first | assumption | exact hwf _ _ | exact dt_b32 _ | omega | exact ⟨by omega, by omega⟩ | decide | exact ⟨by simp (disch := omega) only [dt_up_s, dt_up_k, dt_up_n]; omega, by simp (disch := omega) only [dt_up_s, dt_up_k, dt_up_n]; omega⟩) (fun c11 => ?_) (fun c11 => ?_)
                    · skip
                      have hbb2 : (0 : Int) = dt_b (what = 1) := (dt_bF (by omega)).symm
                      refine dt_iconst dX12_shortest_135 ?_
                      refine dt_xV dX12_shortest_136 pc_X12_267 rfl (s_X12_laySaying (hX.kept (hff 44 (by decide))) htg (by omega) hbb2 hYf h2 h3 h1) rfl rfl ⟨by decide, by decide⟩ rfl rfl (Nat.le_of_ble_eq_true rfl) ⟨by decide, by decide⟩ ?_
                      intro vl shl σl hql
                      obtain ⟨rfl, hsl, hfl, c, hcl, hdl⟩ := hql
                      obtain rfl := hsl.symm
                      obtain ⟨k, rfl⟩ : ∃ z : Nat, k = z := ⟨k.toNat, by omega⟩
                      refine dt_aloadn dX12_shortest_139 rfl rfl ?_
                      refine dt_getR dX12_shortest_140 pg_X12_38_12 rfl rfl ?_
                      refine dt_iload dX12_shortest_143 rfl ?_
                      refine dt_iald dX12_shortest_145 rfl (by first | omega | (simp (disch := omega) only [dt_up_s, dt_up_k, dt_up_n]; omega)) (by first | omega | (simp (disch := omega) only [dt_up_s, dt_up_k, dt_up_n]; omega)) (by decide) ?_
                      refine dt_iret dX12_shortest_146 rfl (by decide) (by decide) ?_
                      have e : oShort A day m what k = (((c / 8 ^ (L - 1 - k) % 8 : Nat) : Int), A) := by
                        unfold oShort
                        rw [if_neg hn, if_neg (by omega), ht, Int.toNat_natCast, Int.toNat_natCast, dt_gd htg, xSht_y hcl, if_neg (by omega), if_neg (by omega), Int.toNat_natCast]
                      rw [e, Int.toNat_natCast, hdl k (by omega)]
                      have hfl2 : ∀ b, b ≠ 47 → b ≠ 48 → b ≠ 50 → b ≠ 49 → σl b = σa b := fun b h1 h2 h3 h4 => (hfl b h1 h2 h3).trans (hff b h4)
                      exact ⟨rfl, rfl, hA.sy (fun k _ => by rw [hfl2 40 (by decide) (by decide) (by decide) (by decide)]) (fun b h1 h2 h3 => hfl2 b (by omega) (by omega) (by omega) (by omega)), fun b hb => (hfl2 b (by omega) (by omega) (by omega) (by omega)).trans (fa b hb)⟩
                    · skip
                      have hbb2 : (1 : Int) = dt_b (what = 1) := (dt_bT (by omega)).symm
                      refine dt_iconst dX12_shortest_131 ?_
                      refine dt_goto (tgt := 136) dX12_shortest_132 (by decide) ?_
                      refine dt_xV dX12_shortest_136 pc_X12_267 rfl (s_X12_laySaying (hX.kept (hff 44 (by decide))) htg (by omega) hbb2 hYf h2 h3 h1) rfl rfl ⟨by decide, by decide⟩ rfl rfl (Nat.le_of_ble_eq_true rfl) ⟨by decide, by decide⟩ ?_
                      intro vl shl σl hql
                      obtain ⟨rfl, hsl, hfl, c, hcl, hdl⟩ := hql
                      obtain rfl := hsl.symm
                      obtain ⟨k, rfl⟩ : ∃ z : Nat, k = z := ⟨k.toNat, by omega⟩
                      refine dt_aloadn dX12_shortest_139 rfl rfl ?_
                      refine dt_getR dX12_shortest_140 pg_X12_38_12 rfl rfl ?_
                      refine dt_iload dX12_shortest_143 rfl ?_
                      refine dt_iald dX12_shortest_145 rfl (by first | omega | (simp (disch := omega) only [dt_up_s, dt_up_k, dt_up_n]; omega)) (by first | omega | (simp (disch := omega) only [dt_up_s, dt_up_k, dt_up_n]; omega)) (by decide) ?_
                      refine dt_iret dX12_shortest_146 rfl (by decide) (by decide) ?_
                      have e : oShort A day m what k = (((c / 8 ^ (L - 1 - k) % 8 : Nat) : Int), A) := by
                        unfold oShort
                        rw [if_neg hn, if_neg (by omega), ht, Int.toNat_natCast, Int.toNat_natCast, dt_gd htg, xSht_y hcl, if_neg (by omega), if_neg (by omega), Int.toNat_natCast]
                      rw [e, Int.toNat_natCast, hdl k (by omega)]
                      have hfl2 : ∀ b, b ≠ 47 → b ≠ 48 → b ≠ 50 → b ≠ 49 → σl b = σa b := fun b h1 h2 h3 h4 => (hfl b h1 h2 h3).trans (hff b h4)
                      exact ⟨rfl, rfl, hA.sy (fun k _ => by rw [hfl2 40 (by decide) (by decide) (by decide) (by decide)]) (fun b h1 h2 h3 => hfl2 b (by omega) (by omega) (by omega) (by omega)), fun b hb => (hfl2 b (by omega) (by omega) (by omega) (by omega)).trans (fa b hb)⟩
                  · skip
                    refine dt_iload dX12_shortest_105 rfl ?_
                    refine dt_if_ge (tgt := 119) dX12_shortest_107 (by decide) (by first | assumption | exact hwf _ _ | exact dt_b32 _ | omega | exact ⟨by omega, by omega⟩ | decide | exact ⟨by simp (disch := omega) only [dt_up_s, dt_up_k, dt_up_n]; omega, by simp (disch := omega) only [dt_up_s, dt_up_k, dt_up_n]; omega⟩) (fun c12 => ?_) (fun c12 => ?_)
                    · skip
                      refine dt_ldc dX12_shortest_119 pk_X12_89 ?_
                      refine dt_iret dX12_shortest_121 rfl (by decide) (by decide) ?_
                      obtain ⟨c, hcR⟩ := xF_R h3.1
                      obtain ⟨c0, -, hbst⟩ := xBst_e hcR (xFd_R h3 hE)
                      have hmin : xMin (xEd (what = 1) m tg) m L c0 := ⟨h1, hbst⟩
                      have e : oShort A day m what k = (-1000000, A) := by
                        unfold oShort
                        rw [if_neg hn, if_neg (by omega), ht, Int.toNat_natCast, Int.toNat_natCast, dt_gd htg, xSht_y hmin, if_neg (by omega), if_pos (by omega)]
                      rw [e]
                      exact ⟨rfl, rfl, hA.sy (fun k _ => by rw [hff 40 (by decide)]) (fun b h1 h2 h3 => hff b (by omega)), fun b hb => (hff b (by omega)).trans (fa b hb)⟩
                    · skip
                      first | exact absurd c12 (by omega) | exact absurd c12 (by decide) | exact absurd rfl c12
              · skip
                obtain ⟨L, h1, h2, h3⟩ | ⟨h1, h2⟩ := hYf 0 (by decide)
                · omega
                obtain ⟨f1, f2, f3, f4, f5⟩ := hX.tg htg
                have hE : xEok (xEd (what = 1) m tg) := xEd_ok ⟨f2, f5⟩
                refine dt_ldc dX12_shortest_86 pk_X12_89 ?_
                refine dt_iret dX12_shortest_88 rfl (by decide) (by decide) ?_
                have e : oShort A day m what k = (-1000000, A) := by
                  unfold oShort
                  rw [if_neg hn, if_neg (by omega), ht, Int.toNat_natCast, Int.toNat_natCast, dt_gd htg, xSht_n (xMin_no hE h2)]
                rw [e]
                exact ⟨rfl, rfl, hA.sy (fun k _ => by rw [hff 40 (by decide)]) (fun b h1 h2 h3 => hff b (by omega)), fun b hb => (hff b (by omega)).trans (fa b hb)⟩
            · skip
              have hbb : (1 : Int) = dt_b (what = 1) := (dt_bT (by omega)).symm
              refine dt_iconst dX12_shortest_69 ?_
              refine dt_goto (tgt := 74) dX12_shortest_70 (by decide) ?_
              refine dt_xV dX12_shortest_74 pc_X12_263 rfl (s_X12_layFar hX htg (by omega) hbb) rfl rfl ⟨by decide, by decide⟩ rfl rfl (Nat.le_of_ble_eq_true rfl) ⟨by decide, by decide⟩ ?_
              intro vf shf σf hqf
              obtain ⟨rfl, hsf, hff, hYf⟩ := hqf
              obtain rfl := hsf.symm
              refine dt_wfV fun hwf => ?_
              refine dt_aloadn dX12_shortest_77 rfl rfl ?_
              refine dt_getR dX12_shortest_78 pg_X12_35_12 rfl rfl ?_
              refine dt_iconst dX12_shortest_81 ?_
              refine dt_iald dX12_shortest_82 rfl (by first | omega | (simp (disch := omega) only [dt_up_s, dt_up_k, dt_up_n]; omega)) (by first | omega | (simp (disch := omega) only [dt_up_s, dt_up_k, dt_up_n]; omega)) (by decide) ?_
              rw [show Int.toNat 0 = 0 from rfl]
              refine dt_if_ge (tgt := 89) dX12_shortest_83 (by decide) (by first | assumption | exact hwf _ _ | exact dt_b32 _ | omega | exact ⟨by omega, by omega⟩ | decide | exact ⟨by simp (disch := omega) only [dt_up_s, dt_up_k, dt_up_n]; omega, by simp (disch := omega) only [dt_up_s, dt_up_k, dt_up_n]; omega⟩) (fun c13 => ?_) (fun c13 => ?_)
              · skip
                obtain ⟨L, h1, h2, h3⟩ | ⟨h1, h2⟩ := hYf 0 (by decide)
                rotate_left
                · omega
                obtain ⟨f1, f2, f3, f4, f5⟩ := hX.tg htg
                have hE : xEok (xEd (what = 1) m tg) := xEd_ok ⟨f2, f5⟩
                refine dt_iload dX12_shortest_89 rfl ?_
                refine dt_if_lt (tgt := 105) dX12_shortest_91 (by decide) (by first | assumption | exact hwf _ _ | exact dt_b32 _ | omega | exact ⟨by omega, by omega⟩ | decide | exact ⟨by simp (disch := omega) only [dt_up_s, dt_up_k, dt_up_n]; omega, by simp (disch := omega) only [dt_up_s, dt_up_k, dt_up_n]; omega⟩) (fun c14 => ?_) (fun c14 => ?_)
                · skip
                  refine dt_iload dX12_shortest_105 rfl ?_
                  refine dt_if_ge (tgt := 119) dX12_shortest_107 (by decide) (by first | assumption | exact hwf _ _ | exact dt_b32 _ | omega | exact ⟨by omega, by omega⟩ | decide | exact ⟨by simp (disch := omega) only [dt_up_s, dt_up_k, dt_up_n]; omega, by simp (disch := omega) only [dt_up_s, dt_up_k, dt_up_n]; omega⟩) (fun c15 => ?_) (fun c15 => ?_)
                  · skip
                    first | exact absurd c15 (by omega) | exact absurd c15 (by decide) | exact absurd rfl c15
                  · skip
                    refine dt_aloadn dX12_shortest_110 rfl rfl ?_
                    refine dt_getR dX12_shortest_111 pg_X12_35_12 rfl rfl ?_
                    refine dt_iconst dX12_shortest_114 ?_
                    refine dt_iald dX12_shortest_115 rfl (by first | omega | (simp (disch := omega) only [dt_up_s, dt_up_k, dt_up_n]; omega)) (by first | omega | (simp (disch := omega) only [dt_up_s, dt_up_k, dt_up_n]; omega)) (by decide) ?_
                    rw [show Int.toNat 0 = 0 from rfl]
                    refine dt_goto (tgt := 121) dX12_shortest_116 (by decide) ?_
                    refine dt_iret dX12_shortest_121 rfl (by decide) (by decide) ?_
                    obtain ⟨c, hcR⟩ := xF_R h3.1
                    obtain ⟨c0, -, hbst⟩ := xBst_e hcR (xFd_R h3 hE)
                    have hmin : xMin (xEd (what = 1) m tg) m L c0 := ⟨h1, hbst⟩
                    have e : oShort A day m what k = ((L : Int), A) := by
                      unfold oShort
                      rw [if_neg hn, if_neg (by omega), ht, Int.toNat_natCast, Int.toNat_natCast, dt_gd htg, xSht_y hmin, if_pos (by omega)]
                    rw [e]
                    rw [h2]
                    exact ⟨rfl, rfl, hA.sy (fun k _ => by rw [hff 40 (by decide)]) (fun b h1 h2 h3 => hff b (by omega)), fun b hb => (hff b (by omega)).trans (fa b hb)⟩
                · skip
                  refine dt_iload dX12_shortest_94 rfl ?_
                  refine dt_aloadn dX12_shortest_96 rfl rfl ?_
                  refine dt_getR dX12_shortest_97 pg_X12_35_12 rfl rfl ?_
                  refine dt_iconst dX12_shortest_100 ?_
                  refine dt_iald dX12_shortest_101 rfl (by first | omega | (simp (disch := omega) only [dt_up_s, dt_up_k, dt_up_n]; omega)) (by first | omega | (simp (disch := omega) only [dt_up_s, dt_up_k, dt_up_n]; omega)) (by decide) ?_
                  rw [show Int.toNat 0 = 0 from rfl]
                  refine dt_cm_lt (tgt := 122) dX12_shortest_102 (by decide) (by first | assumption | exact hwf _ _ | exact dt_b32 _ | omega | exact ⟨by omega, by omega⟩ | decide | exact ⟨by simp (disch := omega) only [dt_up_s, dt_up_k, dt_up_n]; omega, by simp (disch := omega) only [dt_up_s, dt_up_k, dt_up_n]; omega⟩) (by first | assumption | exact hwf _ _ | exact dt_b32 _ | omega | exact ⟨by omega, by omega⟩ | decide | exact ⟨by simp (disch := omega) only [dt_up_s, dt_up_k, dt_up_n]; omega, by simp (disch := omega) only [dt_up_s, dt_up_k, dt_up_n]; omega⟩) (fun c16 => ?_) (fun c16 => ?_)
                  · skip
                    refine dt_aloadn dX12_shortest_122 rfl rfl ?_
                    refine dt_iload dX12_shortest_123 rfl ?_
                    refine dt_iloadn dX12_shortest_125 rfl rfl ?_
                    refine dt_iloadn dX12_shortest_126 rfl rfl ?_
                    refine dt_iconst dX12_shortest_127 ?_
                    refine dt_cm_ne (tgt := 135) dX12_shortest_128 (by decide) (by first | assumption | exact hwf _ _ | exact dt_b32 _ | omega | exact ⟨by omega, by omega⟩ | decide | exact ⟨by simp (disch := omega) only [dt_up_s, dt_up_k, dt_up_n]; omega, by simp (disch := omega) only [dt_up_s, dt_up_k, dt_up_n]; omega⟩) (by first | assumption | exact hwf _ _ | exact dt_b32 _ | omega | exact ⟨by omega, by omega⟩ | decide | exact ⟨by simp (disch := omega) only [dt_up_s, dt_up_k, dt_up_n]; omega, by simp (disch := omega) only [dt_up_s, dt_up_k, dt_up_n]; omega⟩) (fun c17 => ?_) (fun c17 => ?_)
                    · skip
                      have hbb2 : (0 : Int) = dt_b (what = 1) := (dt_bF (by omega)).symm
                      refine dt_iconst dX12_shortest_135 ?_
                      refine dt_xV dX12_shortest_136 pc_X12_267 rfl (s_X12_laySaying (hX.kept (hff 44 (by decide))) htg (by omega) hbb2 hYf h2 h3 h1) rfl rfl ⟨by decide, by decide⟩ rfl rfl (Nat.le_of_ble_eq_true rfl) ⟨by decide, by decide⟩ ?_
                      intro vl shl σl hql
                      obtain ⟨rfl, hsl, hfl, c, hcl, hdl⟩ := hql
                      obtain rfl := hsl.symm
                      obtain ⟨k, rfl⟩ : ∃ z : Nat, k = z := ⟨k.toNat, by omega⟩
                      refine dt_aloadn dX12_shortest_139 rfl rfl ?_
                      refine dt_getR dX12_shortest_140 pg_X12_38_12 rfl rfl ?_
                      refine dt_iload dX12_shortest_143 rfl ?_
                      refine dt_iald dX12_shortest_145 rfl (by first | omega | (simp (disch := omega) only [dt_up_s, dt_up_k, dt_up_n]; omega)) (by first | omega | (simp (disch := omega) only [dt_up_s, dt_up_k, dt_up_n]; omega)) (by decide) ?_
                      refine dt_iret dX12_shortest_146 rfl (by decide) (by decide) ?_
                      have e : oShort A day m what k = (((c / 8 ^ (L - 1 - k) % 8 : Nat) : Int), A) := by
                        unfold oShort
                        rw [if_neg hn, if_neg (by omega), ht, Int.toNat_natCast, Int.toNat_natCast, dt_gd htg, xSht_y hcl, if_neg (by omega), if_neg (by omega), Int.toNat_natCast]
                      rw [e, Int.toNat_natCast, hdl k (by omega)]
                      have hfl2 : ∀ b, b ≠ 47 → b ≠ 48 → b ≠ 50 → b ≠ 49 → σl b = σa b := fun b h1 h2 h3 h4 => (hfl b h1 h2 h3).trans (hff b h4)
                      exact ⟨rfl, rfl, hA.sy (fun k _ => by rw [hfl2 40 (by decide) (by decide) (by decide) (by decide)]) (fun b h1 h2 h3 => hfl2 b (by omega) (by omega) (by omega) (by omega)), fun b hb => (hfl2 b (by omega) (by omega) (by omega) (by omega)).trans (fa b hb)⟩
                    · skip
                      have hbb2 : (1 : Int) = dt_b (what = 1) := (dt_bT (by omega)).symm
                      refine dt_iconst dX12_shortest_131 ?_
                      refine dt_goto (tgt := 136) dX12_shortest_132 (by decide) ?_
                      refine dt_xV dX12_shortest_136 pc_X12_267 rfl (s_X12_laySaying (hX.kept (hff 44 (by decide))) htg (by omega) hbb2 hYf h2 h3 h1) rfl rfl ⟨by decide, by decide⟩ rfl rfl (Nat.le_of_ble_eq_true rfl) ⟨by decide, by decide⟩ ?_
                      intro vl shl σl hql
                      obtain ⟨rfl, hsl, hfl, c, hcl, hdl⟩ := hql
                      obtain rfl := hsl.symm
                      obtain ⟨k, rfl⟩ : ∃ z : Nat, k = z := ⟨k.toNat, by omega⟩
                      refine dt_aloadn dX12_shortest_139 rfl rfl ?_
                      refine dt_getR dX12_shortest_140 pg_X12_38_12 rfl rfl ?_
                      refine dt_iload dX12_shortest_143 rfl ?_
                      refine dt_iald dX12_shortest_145 rfl (by first | omega | (simp (disch := omega) only [dt_up_s, dt_up_k, dt_up_n]; omega)) (by first | omega | (simp (disch := omega) only [dt_up_s, dt_up_k, dt_up_n]; omega)) (by decide) ?_
                      refine dt_iret dX12_shortest_146 rfl (by decide) (by decide) ?_
                      have e : oShort A day m what k = (((c / 8 ^ (L - 1 - k) % 8 : Nat) : Int), A) := by
                        unfold oShort
                        rw [if_neg hn, if_neg (by omega), ht, Int.toNat_natCast, Int.toNat_natCast, dt_gd htg, xSht_y hcl, if_neg (by omega), if_neg (by omega), Int.toNat_natCast]
                      rw [e, Int.toNat_natCast, hdl k (by omega)]
                      have hfl2 : ∀ b, b ≠ 47 → b ≠ 48 → b ≠ 50 → b ≠ 49 → σl b = σa b := fun b h1 h2 h3 h4 => (hfl b h1 h2 h3).trans (hff b h4)
                      exact ⟨rfl, rfl, hA.sy (fun k _ => by rw [hfl2 40 (by decide) (by decide) (by decide) (by decide)]) (fun b h1 h2 h3 => hfl2 b (by omega) (by omega) (by omega) (by omega)), fun b hb => (hfl2 b (by omega) (by omega) (by omega) (by omega)).trans (fa b hb)⟩
                  · skip
                    refine dt_iload dX12_shortest_105 rfl ?_
                    refine dt_if_ge (tgt := 119) dX12_shortest_107 (by decide) (by first | assumption | exact hwf _ _ | exact dt_b32 _ | omega | exact ⟨by omega, by omega⟩ | decide | exact ⟨by simp (disch := omega) only [dt_up_s, dt_up_k, dt_up_n]; omega, by simp (disch := omega) only [dt_up_s, dt_up_k, dt_up_n]; omega⟩) (fun c18 => ?_) (fun c18 => ?_)
                    · skip
                      refine dt_ldc dX12_shortest_119 pk_X12_89 ?_
                      refine dt_iret dX12_shortest_121 rfl (by decide) (by decide) ?_
                      obtain ⟨c, hcR⟩ := xF_R h3.1
                      obtain ⟨c0, -, hbst⟩ := xBst_e hcR (xFd_R h3 hE)
                      have hmin : xMin (xEd (what = 1) m tg) m L c0 := ⟨h1, hbst⟩
                      have e : oShort A day m what k = (-1000000, A) := by
                        unfold oShort
                        rw [if_neg hn, if_neg (by omega), ht, Int.toNat_natCast, Int.toNat_natCast, dt_gd htg, xSht_y hmin, if_neg (by omega), if_pos (by omega)]
                      rw [e]
                      exact ⟨rfl, rfl, hA.sy (fun k _ => by rw [hff 40 (by decide)]) (fun b h1 h2 h3 => hff b (by omega)), fun b hb => (hff b (by omega)).trans (fa b hb)⟩
                    · skip
                      first | exact absurd c18 (by omega) | exact absurd c18 (by decide) | exact absurd rfl c18
              · skip
                obtain ⟨L, h1, h2, h3⟩ | ⟨h1, h2⟩ := hYf 0 (by decide)
                · omega
                obtain ⟨f1, f2, f3, f4, f5⟩ := hX.tg htg
                have hE : xEok (xEd (what = 1) m tg) := xEd_ok ⟨f2, f5⟩
                refine dt_ldc dX12_shortest_86 pk_X12_89 ?_
                refine dt_iret dX12_shortest_88 rfl (by decide) (by decide) ?_
                have e : oShort A day m what k = (-1000000, A) := by
                  unfold oShort
                  rw [if_neg hn, if_neg (by omega), ht, Int.toNat_natCast, Int.toNat_natCast, dt_gd htg, xSht_n (xMin_no hE h2)]
                rw [e]
                exact ⟨rfl, rfl, hA.sy (fun k _ => by rw [hff 40 (by decide)]) (fun b h1 h2 h3 => hff b (by omega)), fun b hb => (hff b (by omega)).trans (fa b hb)⟩
          · skip
            refine dt_ldc dX12_shortest_50 pk_X12_73 ?_
            refine dt_iret dX12_shortest_52 rfl (by decide) (by decide) ?_
            have e : oShort A day m what k = (-1000001, A) := by
              unfold oShort
              rw [if_neg hn, if_pos (by omega)]
            rw [e]
            exact ⟨rfl, rfl, hA, fa⟩
  · skip
    rw [e7] at c1
    have hn : (sN A).1 = [] := by simpa [dt_b0] using c1
    refine dt_ldc dX12_shortest_12 pk_X12_204 ?_
    refine dt_iret dX12_shortest_14 rfl (by decide) (by decide) ?_
    have e : oShort A day m what k = (-1000002, A) := by
      unfold oShort
      rw [if_pos hn]
    rw [e]
    exact ⟨rfl, rfl, hA, fa⟩
