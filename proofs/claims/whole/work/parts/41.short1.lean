
/-! shifts of numbers that are not negative -/
theorem dj_shr_nn {a k : Nat} (ha : a < 2147483648) (hk : k < 32) : dj_shr (a : Int) (k : Int) = ((a / 2 ^ k : Nat) : Int) := by
  have key : ∀ k : Nat, k < 32 → ((Int32.ofInt (k : Int) &&& 31).toBitVec.smod 32).toNat = k := by decide +kernel
  unfold dj_shr
  rw [← Int32.toInt_toBitVec, Int32.toBitVec_shiftRight, BitVec.toInt_sshiftRight', key k hk, Int32.toInt_toBitVec, dj_of, nI_toInt ha, Int.shiftRight_eq_div_pow]
  rfl
theorem dj_shl3 {v : Nat} (h : v < 268435456) : dj_shl (v : Int) 3 = ((v * 8 : Nat) : Int) := by
  have e : Int32.ofInt (v : Int) <<< (Int32.ofInt 3 &&& 31) = nI (v * 8) := by
    rw [dj_of, show (Int32.ofInt 3 &&& 31) = (3 : Int32) by decide]
    apply Int32.toBitVec_inj.1
    show BitVec.ofNat 32 v <<< (BitVec.smod (3#32) 32#32) = BitVec.ofNat 32 (v * 8)
    rw [show BitVec.smod (3#32) 32#32 = 3#32 from by decide]
    apply BitVec.eq_of_toNat_eq
    simp only [BitVec.toNat_shiftLeft, BitVec.shiftLeft_eq', BitVec.toNat_ofNat, Nat.shiftLeft_eq]
    rw [show (2 : Nat) ^ (3 % 2 ^ 32) = 8 from by decide]
    omega
  unfold dj_shl
  rw [e, nI_toInt (by omega)]
theorem dj_and7 {n : Nat} (h : n < 2147483648) : dj_and (n : Int) 7 = ((n % 8 : Nat) : Int) := by
  have h2 := dj_and_nn (a := n) (b := 7) h
  have h3 : n &&& 7 = n % 8 := by
    have := Nat.and_two_pow_sub_one_eq_mod n 3
    exact this
  rw [h3] at h2
  exact h2
/-! shortest sayings: by word w, part r a set goes on -/
abbrev xG : Type := Nat → Nat → Prop
/-- by d words whose numbers make c (the first one highest) none goes on to S -/
def xR (E : xG) : Nat → Nat → Nat → Prop
  | 0, S, c => S = 0 ∧ c = 0
  | d + 1, S, c => ∃ S' c' w r, xR E d S' c' ∧ E w r ∧ S' ||| r = S ∧ c = c' * 8 + w
def xBst (E : xG) (d S c : Nat) : Prop := xR E d S c ∧ (∀ c', xR E d S c' → c ≤ c') ∧ ∀ d', d' < d → ∀ c', ¬ xR E d' S c'
def xEok (E : xG) : Prop := ∀ w r, E w r → w < 8 ∧ r < 256
theorem xR_b {E : xG} (hE : xEok E) : ∀ (d S c : Nat), xR E d S c → S < 256 ∧ c < 8 ^ d
  | 0, S, c, h => by
    obtain ⟨rfl, rfl⟩ := h
    exact ⟨by decide, by decide⟩
  | d + 1, S, c, h => by
    obtain ⟨S', c', w, r, h1, h2, rfl, rfl⟩ := h
    obtain ⟨a1, a2⟩ := xR_b hE d S' c' h1
    obtain ⟨b1, b2⟩ := hE w r h2
    exact ⟨Nat.or_lt_two_pow (n := 8) a1 b2, by rw [Nat.pow_succ]; omega⟩
theorem xBst_u {E : xG} {d d2 S c c2 : Nat} (h : xBst E d S c) (h2 : xBst E d2 S c2) : d = d2 ∧ c = c2 := by
  have e : d = d2 := by
    rcases Nat.lt_trichotomy d d2 with g | g | g
    · exact absurd h.1 (h2.2.2 d g c)
    · exact g
    · exact absurd h2.1 (h.2.2 d2 g c2)
  subst e
  exact ⟨rfl, Nat.le_antisymm (h.2.1 _ h2.1) (h2.2.1 _ h.1)⟩
theorem xLeast (p : Nat → Prop) : ∀ n, p n → ∃ m, p m ∧ ∀ k, p k → m ≤ k := by
  intro n
  induction n using Nat.strongRecOn with
  | ind n ih =>
    intro hn
    by_cases h : ∃ k, k < n ∧ p k
    · obtain ⟨k, h1, h2⟩ := h
      exact ih k h1 h2
    · exact ⟨n, hn, fun k hk => Nat.le_of_not_lt (fun z => h ⟨k, z, hk⟩)⟩
theorem xBst_e {E : xG} {d S c : Nat} (h : xR E d S c) (h2 : ∀ d', d' < d → ∀ c', ¬ xR E d' S c') : ∃ c0, c0 ≤ c ∧ xBst E d S c0 := by
  obtain ⟨m, h3, h4⟩ := xLeast (fun c => xR E d S c) c h
  exact ⟨m, h4 c h, h3, h4, h2⟩
/-- while a layer of words is gone through: what was offered -/
def xLP (E : xG) (σ : dt_Mem) (n : Nat) (G : Nat → Nat → Prop) : Prop := ∀ S, S < 256 →
  (∃ d c, d ≤ n ∧ σ 35 S = (d : Nat) ∧ σ 36 S = (c : Nat) ∧ xBst E d S c) ∨
  ((∀ d, d ≤ n → ∀ c, ¬ xR E d S c) ∧ ((σ 35 S = ((n + 1 : Nat) : Int) ∧ ∃ c : Nat, σ 36 S = c ∧ G S c ∧ ∀ c', G S c' → c ≤ c') ∨ (σ 35 S = -1 ∧ ∀ c, ¬ G S c)))
def xLY (E : xG) (σ : dt_Mem) (n : Nat) : Prop := ∀ S, S < 256 → (∃ d c, d ≤ n ∧ σ 35 S = (d : Nat) ∧ σ 36 S = (c : Nat) ∧ xBst E d S c) ∨ (σ 35 S = -1 ∧ ∀ d, d ≤ n → ∀ c, ¬ xR E d S c)
theorem xLP.kept {E : xG} {σ σ' : dt_Mem} {n : Nat} {G : Nat → Nat → Prop} (h : xLP E σ n G) (e1 : σ' 35 = σ 35) (e2 : σ' 36 = σ 36) : xLP E σ' n G := by
  unfold xLP
  rw [e1, e2]
  exact h
theorem xLP.ext {E : xG} {σ : dt_Mem} {n : Nat} {G H : Nat → Nat → Prop} (h : xLP E σ n G) (e : ∀ S c, G S c ↔ H S c) : xLP E σ n H := by
  have e : G = H := funext fun S => funext fun c => propext (e S c)
  rw [← e]
  exact h
theorem xLP.i32 {E : xG} {σ : dt_Mem} {n S : Nat} {G : Nat → Nat → Prop} (h : xLP E σ n G) (hS : S < 256) (hn : n ≤ 100) : -1 ≤ σ 35 S ∧ σ 35 S ≤ 101 := by
  rcases h S hS with ⟨d, c, h1, h2, -⟩ | ⟨-, ⟨h2, -⟩ | ⟨h2, -⟩⟩ <;> omega
/-- one word, part more is offered -/
def xOf (E : xG) (n w r S c : Nat) : Prop := ∃ S' c0, S' < 256 ∧ xBst E n S' c0 ∧ S' ||| r = S ∧ c = c0 * 8 + w
theorem xLY.p {E : xG} {σ : dt_Mem} {n : Nat} (h : xLY E σ n) : xLP E σ n (fun _ _ => False) := fun S hS => by
  rcases h S hS with g | ⟨g1, g2⟩
  · exact Or.inl g
  · exact Or.inr ⟨g2, Or.inr ⟨g1, fun c => id⟩⟩
theorem xLP.y {E : xG} {σ : dt_Mem} {n : Nat} (hE : xEok E) (h : xLP E σ n (fun S c => ∃ w r, E w r ∧ xOf E n w r S c)) : xLY E σ (n + 1) := fun S hS => by
  have up : ∀ d, d ≤ n + 1 → d ≤ n ∨ d = n + 1 := fun d hd => by omega
  have go : (∀ d, d ≤ n → ∀ c, ¬ xR E d S c) → ∀ c, xR E (n + 1) S c → ∃ c0, c0 ≤ c ∧ ∃ w r, E w r ∧ xOf E n w r S c0 := fun h0 c hc => by
    obtain ⟨S', c', w, r, h1, h2, rfl, rfl⟩ := hc
    obtain ⟨c0, h3, h4⟩ := xBst_e h1 (fun d' hd c2 h5 => h0 (d' + 1) (by omega) (c2 * 8 + w) ⟨S', c2, w, r, h5, h2, rfl, rfl⟩)
    exact ⟨c0 * 8 + w, by omega, w, r, h2, S', c0, (xR_b hE _ _ _ h1).1, h4, rfl, rfl⟩
  have back : ∀ c, (∃ w r, E w r ∧ xOf E n w r S c) → xR E (n + 1) S c := fun c ⟨w, r, h2, S', c0, _, h4, h5, h6⟩ => ⟨S', c0, w, r, h4.1, h2, h5, h6⟩
  rcases h S hS with ⟨d, c, h1, h2, h3, h4⟩ | ⟨h0, ⟨h2, c, h3, h4, h5⟩ | ⟨h2, h3⟩⟩
  · exact Or.inl ⟨d, c, by omega, h2, h3, h4⟩
  · refine Or.inl ⟨n + 1, c, Nat.le_refl _, h2, h3, back c h4, fun c' hc' => ?_, fun d' hd => h0 d' (by omega)⟩
    obtain ⟨c0, g1, g2⟩ := go h0 c' hc'
    exact Nat.le_trans (h5 c0 g2) g1
  · refine Or.inr ⟨h2, fun d hd c hc => ?_⟩
    rcases up d hd with g | g
    · exact h0 d g c hc
    · subst g
      obtain ⟨c0, g1, g2⟩ := go h0 c hc
      exact h3 c0 g2
theorem xLP.offer {E : xG} {σ σ' : dt_Mem} {n S c : Nat} {G : Nat → Nat → Prop} (h : xLP E σ n G) (hS : S < 256) (ho : ∀ T, T ≠ S → σ' 35 T = σ 35 T ∧ σ' 36 T = σ 36 T) (hs : ((σ 35 S = -1 ∨ (σ 35 S = ((n + 1 : Nat) : Int) ∧ (c : Int) < σ 36 S)) ∧ σ' 35 S = ((n + 1 : Nat) : Int) ∧ σ' 36 S = c) ∨ (¬ (σ 35 S = -1 ∨ (σ 35 S = ((n + 1 : Nat) : Int) ∧ (c : Int) < σ 36 S)) ∧ σ' 35 S = σ 35 S ∧ σ' 36 S = σ 36 S)) : xLP E σ' n (fun T x => G T x ∨ (T = S ∧ x = c)) := fun T hT => by
  by_cases e : T = S
  · subst e
    rcases h T hT with ⟨d, c2, h1, h2, h3, h4⟩ | ⟨h0, ⟨h2, c2, h3, h4, h5⟩ | ⟨h2, h3⟩⟩
    · rcases hs with ⟨g, -⟩ | ⟨-, g1, g2⟩
      · omega
      · exact Or.inl ⟨d, c2, h1, g1.trans h2, g2.trans h3, h4⟩
    · rcases hs with ⟨g, g1, g2⟩ | ⟨g, g1, g2⟩
      · refine Or.inr ⟨h0, Or.inl ⟨g1, c, g2, Or.inr ⟨rfl, rfl⟩, fun c' z => ?_⟩⟩
        rcases z with z | ⟨-, z⟩
        · have := h5 c' z; omega
        · omega
      · refine Or.inr ⟨h0, Or.inl ⟨g1.trans h2, c2, g2.trans h3, Or.inl h4, fun c' z => ?_⟩⟩
        rcases z with z | ⟨-, z⟩
        · exact h5 c' z
        · omega
    · rcases hs with ⟨g, g1, g2⟩ | ⟨g, g1, g2⟩
      · refine Or.inr ⟨h0, Or.inl ⟨g1, c, g2, Or.inr ⟨rfl, rfl⟩, fun c' z => ?_⟩⟩
        rcases z with z | ⟨-, z⟩
        · exact absurd z (h3 c')
        · omega
      · omega
  · obtain ⟨e1, e2⟩ := ho T e
    have ge : ∀ x, (G T x ∨ (T = S ∧ x = c)) ↔ G T x := fun x => ⟨fun z => z.elim id (fun z => absurd z.1 e), Or.inl⟩
    simp only [e1, e2, ge]
    exact h T hT
def xWay (s : Prop) (m : Nat) (wd : Nat × List Nat) (r : Nat) : Prop := (s ∧ xWithin wd.2 m ∧ r = xCom wd.2) ∨ (¬ s ∧ r ∈ wd.2)
def xEd (s : Prop) (m : Nat) (tg : List (Nat × List Nat)) : xG := fun w r => ∃ wd, tg[w]? = some wd ∧ xWay s m wd r
theorem xEd_ok {s : Prop} {m : Nat} {tg : List (Nat × List Nat)} (h : tg.length ≤ 8 ∧ ∀ wd ∈ tg, wdOk wd) : xEok (xEd s m tg) := fun w r ⟨wd, h1, h2⟩ => by
  have l := dt_gl h1
  refine ⟨by omega, ?_⟩
  rcases h2 with ⟨-, -, rfl⟩ | ⟨-, h3⟩
  · exact xCom_lt _
  · exact ((h.2 wd (List.mem_of_getElem? h1)).2.2.2.2.2 r h3).2
/-- the shortest saying, the first of these -/
def xMin (E : xG) (m d c : Nat) : Prop := d ≤ 8 ∧ xBst E d m c
noncomputable def xSht (E : xG) (m : Nat) (k : Int) : Int := by
  classical
  exact if h : ∃ q : Nat × Nat, xMin E m q.1 q.2 then (if k < 0 then ((Classical.choose h).1 : Int) else if ((Classical.choose h).1 : Int) ≤ k then -1000000 else (((Classical.choose h).2 / 8 ^ ((Classical.choose h).1 - 1 - k.toNat) % 8 : Nat) : Int)) else -1000000
theorem xSht_n {E : xG} {m : Nat} {k : Int} (h : ∀ d c, ¬ xMin E m d c) : xSht E m k = -1000000 := dif_neg (fun ⟨q, hq⟩ => h q.1 q.2 hq)
theorem xSht_y {E : xG} {m d c : Nat} {k : Int} (h : xMin E m d c) : xSht E m k = if k < 0 then (d : Int) else if (d : Int) ≤ k then -1000000 else ((c / 8 ^ (d - 1 - k.toNat) % 8 : Nat) : Int) := by
  have g : ∃ q : Nat × Nat, xMin E m q.1 q.2 := ⟨(d, c), h⟩
  obtain ⟨e1, e2⟩ := xBst_u (Classical.choose_spec g).2 h.2
  have e : xSht E m k = (if k < 0 then ((Classical.choose g).1 : Int) else if ((Classical.choose g).1 : Int) ≤ k then -1000000 else (((Classical.choose g).2 / 8 ^ ((Classical.choose g).1 - 1 - k.toNat) % 8 : Nat) : Int)) := dif_pos g
  rw [e, e1, e2]
noncomputable def oShort (A : dS) (day m what k : Int) : Int × dS := if (sN A).1 = [] then (-1000002, A) else if ¬ ((0 ≤ day ∧ day ≤ 1000000) ∧ (0 ≤ m ∧ m ≤ 255) ∧ (0 ≤ what ∧ what ≤ 1) ∧ -1 ≤ k) then (-1000001, A) else (xSht (xEd (what = 1) m.toNat ((sN A).1.getD (day % ((sN A).1.length : Int)).toNat [])) m.toNat k, A)
theorem or3 (v x : Nat) (hx : x < 8) : (v * 8) ||| x = v * 8 + x := by
  have := Nat.shiftLeft_add_eq_or_of_lt (b := x) (i := 3) hx v
  rw [Nat.shiftLeft_eq] at this
  exact this.symm
theorem p88 {n : Nat} (h : n ≤ 8) : 8 ^ n ≤ 16777216 := by
  have : 8 ^ n ≤ 8 ^ 8 := Nat.pow_le_pow_right (by decide) h
  exact this
theorem xLP.at {E : xG} {σ : dt_Mem} {n S : Nat} {G : Nat → Nat → Prop} (h : xLP E σ n G) (hS : S < 256) : (σ 35 S = (n : Int) → ∃ c : Nat, σ 36 S = c ∧ xBst E n S c) ∧ (¬ σ 35 S = (n : Int) → ∀ c, ¬ xBst E n S c) := by
  rcases h S hS with ⟨d, c, h1, h2, h3, h4⟩ | ⟨h0, ⟨h2, -⟩ | ⟨h2, -⟩⟩
  · exact ⟨fun g => by obtain rfl : d = n := by omega
                       exact ⟨c, h3, h4⟩, fun g c2 h5 => by have := (xBst_u h4 h5).1; omega⟩
  · exact ⟨fun g => by omega, fun _ c h5 => h0 n (Nat.le_refl n) c h5.1⟩
  · exact ⟨fun g => by omega, fun _ c h5 => h0 n (Nat.le_refl n) c h5.1⟩
theorem s_X8_offer {ex : List dt_Shp} {σ : dt_Mem} {E : xG} {G : Nat → Nat → Prop} {n S c : Nat} (hL : xLP E σ n G) (hS : S < 256) (hn : n ≤ 8) (hc : c < 200000000) : dt_Sp mX8_offer 0 0 0 [dt_R 31, dt_I (S : Int), dt_I ((n + 1 : Nat) : Int), dt_I (c : Int)] (dt_SH ++ ex) σ (fun v sh2 σ2 => v = none ∧ sh2 = dt_SH ++ ex ∧ (∀ b, b ≠ 35 → b ≠ 36 → σ2 b = σ b) ∧ xLP E σ2 n (fun T x => G T x ∨ (T = S ∧ x = c))) := by
  refine dt_Sp_of (by decide) (Nat.le_of_ble_eq_true rfl) ?_
  refine dt_wfV fun hwf => ?_
  show dt_V _ _ _ 0 0 0 [some (dt_R 31), some (dt_I (S : Int)), some (dt_I ((n + 1 : Nat) : Int)), some (dt_I (c : Int))] [] _ _
  refine dt_iloadn dX8_offer_0 rfl rfl ?_
  refine dt_if_lt (tgt := 11) dX8_offer_1 (by decide) (by first | assumption | exact hwf _ _ | exact dt_b32 _ | omega | exact ⟨by omega, by omega⟩ | decide | exact ⟨by simp (disch := omega) only [dt_up_s, dt_up_k, dt_up_n]; omega, by simp (disch := omega) only [dt_up_s, dt_up_k, dt_up_n]; omega⟩) (fun c1 => ?_) (fun c1 => ?_)
  · skip
    first | exact absurd c1 (by omega) | exact absurd c1 (by decide) | exact absurd rfl c1
  · skip
    refine dt_iloadn dX8_offer_4 rfl rfl ?_
    refine dt_sipush dX8_offer_5 (by decide) ?_
    refine dt_cm_lt (tgt := 12) dX8_offer_8 (by decide) (by first | assumption | exact hwf _ _ | exact dt_b32 _ | omega | exact ⟨by omega, by omega⟩ | decide | exact ⟨by simp (disch := omega) only [dt_up_s, dt_up_k, dt_up_n]; omega, by simp (disch := omega) only [dt_up_s, dt_up_k, dt_up_n]; omega⟩) (by first | assumption | exact hwf _ _ | exact dt_b32 _ | omega | exact ⟨by omega, by omega⟩ | decide | exact ⟨by simp (disch := omega) only [dt_up_s, dt_up_k, dt_up_n]; omega, by simp (disch := omega) only [dt_up_s, dt_up_k, dt_up_n]; omega⟩) (fun c2 => ?_) (fun c2 => ?_)
    · skip
      refine dt_aloadn dX8_offer_12 rfl rfl ?_
      refine dt_getR dX8_offer_13 pg_X8_25_8 rfl rfl ?_
      refine dt_iloadn dX8_offer_16 rfl rfl ?_
      refine dt_iald dX8_offer_17 rfl (by first | omega | (simp (disch := omega) only [dt_up_s, dt_up_k, dt_up_n]; omega)) (by first | omega | (simp (disch := omega) only [dt_up_s, dt_up_k, dt_up_n]; omega)) (by decide) ?_
      rw [Int.toNat_natCast]
      refine dt_iconst dX8_offer_18 ?_
      refine dt_cm_eq (tgt := 42) dX8_offer_19 (by decide) (by first | assumption | exact hwf _ _ | exact dt_b32 _ | omega | exact ⟨by omega, by omega⟩ | decide | exact ⟨by simp (disch := omega) only [dt_up_s, dt_up_k, dt_up_n]; omega, by simp (disch := omega) only [dt_up_s, dt_up_k, dt_up_n]; omega⟩) (by first | assumption | exact hwf _ _ | exact dt_b32 _ | omega | exact ⟨by omega, by omega⟩ | decide | exact ⟨by simp (disch := omega) only [dt_up_s, dt_up_k, dt_up_n]; omega, by simp (disch := omega) only [dt_up_s, dt_up_k, dt_up_n]; omega⟩) (fun c3 => ?_) (fun c3 => ?_)
      · skip
        have hy : σ 35 S = -1 ∨ (σ 35 S = ((n + 1 : Nat) : Int) ∧ (c : Int) < σ 36 S) := Or.inl (by assumption)
        refine dt_aloadn dX8_offer_42 rfl rfl ?_
        refine dt_getR dX8_offer_43 pg_X8_25_8 rfl rfl ?_
        refine dt_iloadn dX8_offer_46 rfl rfl ?_
        refine dt_iloadn dX8_offer_47 rfl rfl ?_
        refine dt_wfV fun hwf => ?_
        refine dt_iast dX8_offer_48 rfl (by first | omega | (simp (disch := omega) only [dt_up_s, dt_up_k, dt_up_n]; omega)) (by first | omega | (simp (disch := omega) only [dt_up_s, dt_up_k, dt_up_n]; omega)) (by decide) (by first | assumption | exact hwf _ _ | exact dt_b32 _ | omega | exact ⟨by omega, by omega⟩ | decide | exact ⟨by simp (disch := omega) only [dt_up_s, dt_up_k, dt_up_n]; omega, by simp (disch := omega) only [dt_up_s, dt_up_k, dt_up_n]; omega⟩) ?_
        rw [Int.toNat_natCast]
        refine dt_aloadn dX8_offer_49 rfl rfl ?_
        refine dt_getR dX8_offer_50 pg_X8_29_8 rfl rfl ?_
        refine dt_iloadn dX8_offer_53 rfl rfl ?_
        refine dt_iloadn dX8_offer_54 rfl rfl ?_
        refine dt_wfV fun hwf => ?_
        refine dt_iast dX8_offer_55 rfl (by first | omega | (simp (disch := omega) only [dt_up_s, dt_up_k, dt_up_n]; omega)) (by first | omega | (simp (disch := omega) only [dt_up_s, dt_up_k, dt_up_n]; omega)) (by decide) (by first | assumption | exact hwf _ _ | exact dt_b32 _ | omega | exact ⟨by omega, by omega⟩ | decide | exact ⟨by simp (disch := omega) only [dt_up_s, dt_up_k, dt_up_n]; omega, by simp (disch := omega) only [dt_up_s, dt_up_k, dt_up_n]; omega⟩) ?_
        rw [Int.toNat_natCast]
        refine dt_vret dX8_offer_56 rfl (by decide) (by decide) ?_
        exact ⟨rfl, rfl, fun b h1 h2 => by rw [dt_up_o h2, dt_up_o h1], hL.offer hS (fun T hT => ⟨by rw [dt_up_n (by decide), dt_up_k hT], by rw [dt_up_k hT, dt_up_n (by decide)]⟩) (Or.inl ⟨hy, by rw [dt_up_n (by decide), dt_up_s], by rw [dt_up_s]⟩)⟩
      · skip
        refine dt_aloadn dX8_offer_22 rfl rfl ?_
        refine dt_getR dX8_offer_23 pg_X8_25_8 rfl rfl ?_
        refine dt_iloadn dX8_offer_26 rfl rfl ?_
        refine dt_iald dX8_offer_27 rfl (by first | omega | (simp (disch := omega) only [dt_up_s, dt_up_k, dt_up_n]; omega)) (by first | omega | (simp (disch := omega) only [dt_up_s, dt_up_k, dt_up_n]; omega)) (by decide) ?_
        rw [Int.toNat_natCast]
        refine dt_iloadn dX8_offer_28 rfl rfl ?_
        refine dt_cm_ne (tgt := 56) dX8_offer_29 (by decide) (by first | assumption | exact hwf _ _ | exact dt_b32 _ | omega | exact ⟨by omega, by omega⟩ | decide | exact ⟨by simp (disch := omega) only [dt_up_s, dt_up_k, dt_up_n]; omega, by simp (disch := omega) only [dt_up_s, dt_up_k, dt_up_n]; omega⟩) (by first | assumption | exact hwf _ _ | exact dt_b32 _ | omega | exact ⟨by omega, by omega⟩ | decide | exact ⟨by simp (disch := omega) only [dt_up_s, dt_up_k, dt_up_n]; omega, by simp (disch := omega) only [dt_up_s, dt_up_k, dt_up_n]; omega⟩) (fun c4 => ?_) (fun c4 => ?_)
        · skip
          have hnn : ¬ (σ 35 S = -1 ∨ (σ 35 S = ((n + 1 : Nat) : Int) ∧ (c : Int) < σ 36 S)) := fun z => by omega
          refine dt_vret dX8_offer_56 rfl (by decide) (by decide) ?_
          exact ⟨rfl, rfl, fun b _ _ => rfl, hL.offer hS (fun T hT => ⟨rfl, rfl⟩) (Or.inr ⟨hnn, rfl, rfl⟩)⟩
        · skip
          refine dt_iloadn dX8_offer_32 rfl rfl ?_
          refine dt_aloadn dX8_offer_33 rfl rfl ?_
          refine dt_getR dX8_offer_34 pg_X8_29_8 rfl rfl ?_
          refine dt_iloadn dX8_offer_37 rfl rfl ?_
          refine dt_iald dX8_offer_38 rfl (by first | omega | (simp (disch := omega) only [dt_up_s, dt_up_k, dt_up_n]; omega)) (by first | omega | (simp (disch := omega) only [dt_up_s, dt_up_k, dt_up_n]; omega)) (by decide) ?_
          rw [Int.toNat_natCast]
          refine dt_cm_ge (tgt := 56) dX8_offer_39 (by decide) (by first | assumption | exact hwf _ _ | exact dt_b32 _ | omega | exact ⟨by omega, by omega⟩ | decide | exact ⟨by simp (disch := omega) only [dt_up_s, dt_up_k, dt_up_n]; omega, by simp (disch := omega) only [dt_up_s, dt_up_k, dt_up_n]; omega⟩) (by first | assumption | exact hwf _ _ | exact dt_b32 _ | omega | exact ⟨by omega, by omega⟩ | decide | exact ⟨by simp (disch := omega) only [dt_up_s, dt_up_k, dt_up_n]; omega, by simp (disch := omega) only [dt_up_s, dt_up_k, dt_up_n]; omega⟩) (fun c5 => ?_) (fun c5 => ?_)
          · skip
            have hnn : ¬ (σ 35 S = -1 ∨ (σ 35 S = ((n + 1 : Nat) : Int) ∧ (c : Int) < σ 36 S)) := fun z => by omega
            refine dt_vret dX8_offer_56 rfl (by decide) (by decide) ?_
            exact ⟨rfl, rfl, fun b _ _ => rfl, hL.offer hS (fun T hT => ⟨rfl, rfl⟩) (Or.inr ⟨hnn, rfl, rfl⟩)⟩
          · skip
            have hy : σ 35 S = -1 ∨ (σ 35 S = ((n + 1 : Nat) : Int) ∧ (c : Int) < σ 36 S) := Or.inr ⟨by assumption, by omega⟩
            refine dt_aloadn dX8_offer_42 rfl rfl ?_
            refine dt_getR dX8_offer_43 pg_X8_25_8 rfl rfl ?_
            refine dt_iloadn dX8_offer_46 rfl rfl ?_
            refine dt_iloadn dX8_offer_47 rfl rfl ?_
            refine dt_wfV fun hwf => ?_
            refine dt_iast dX8_offer_48 rfl (by first | omega | (simp (disch := omega) only [dt_up_s, dt_up_k, dt_up_n]; omega)) (by first | omega | (simp (disch := omega) only [dt_up_s, dt_up_k, dt_up_n]; omega)) (by decide) (by first | assumption | exact hwf _ _ | exact dt_b32 _ | omega | exact ⟨by omega, by omega⟩ | decide | exact ⟨by simp (disch := omega) only [dt_up_s, dt_up_k, dt_up_n]; omega, by simp (disch := omega) only [dt_up_s, dt_up_k, dt_up_n]; omega⟩) ?_
            rw [Int.toNat_natCast]
            refine dt_aloadn dX8_offer_49 rfl rfl ?_
            refine dt_getR dX8_offer_50 pg_X8_29_8 rfl rfl ?_
            refine dt_iloadn dX8_offer_53 rfl rfl ?_
            refine dt_iloadn dX8_offer_54 rfl rfl ?_
            refine dt_wfV fun hwf => ?_
            refine dt_iast dX8_offer_55 rfl (by first | omega | (simp (disch := omega) only [dt_up_s, dt_up_k, dt_up_n]; omega)) (by first | omega | (simp (disch := omega) only [dt_up_s, dt_up_k, dt_up_n]; omega)) (by decide) (by first | assumption | exact hwf _ _ | exact dt_b32 _ | omega | exact ⟨by omega, by omega⟩ | decide | exact ⟨by simp (disch := omega) only [dt_up_s, dt_up_k, dt_up_n]; omega, by simp (disch := omega) only [dt_up_s, dt_up_k, dt_up_n]; omega⟩) ?_
            rw [Int.toNat_natCast]
            refine dt_vret dX8_offer_56 rfl (by decide) (by decide) ?_
            exact ⟨rfl, rfl, fun b h1 h2 => by rw [dt_up_o h2, dt_up_o h1], hL.offer hS (fun T hT => ⟨by rw [dt_up_n (by decide), dt_up_k hT], by rw [dt_up_k hT, dt_up_n (by decide)]⟩) (Or.inl ⟨hy, by rw [dt_up_n (by decide), dt_up_s], by rw [dt_up_s]⟩)⟩
    · skip
      first | exact absurd c2 (by omega) | exact absurd c2 (by decide) | exact absurd rfl c2
theorem s_X8_goOn {ex : List dt_Shp} {σ : dt_Mem} {E : xG} {G : Nat → Nat → Prop} {n w r : Nat} (hL : xLP E σ n G) (hE : xEok E) (hn : n ≤ 8) (hw : w < 8) (hr : r < 256) : dt_Sp mX8_goOn 1 0 0 [dt_R 31, dt_I (w : Int), dt_I (r : Int), dt_I ((n + 1 : Nat) : Int)] (dt_SH ++ ex) σ (fun v sh2 σ2 => v = none ∧ sh2 = dt_SH ++ ex ∧ (∀ b, b ≠ 35 → b ≠ 36 → σ2 b = σ b) ∧ xLP E σ2 n (fun T x => G T x ∨ xOf E n w r T x)) := by
  refine dt_Sp_of (by decide) (Nat.le_of_ble_eq_true rfl) ?_
  refine dt_wfV fun hwf => ?_
  show dt_V _ _ _ 0 0 0 [some (dt_R 31), some (dt_I (w : Int)), some (dt_I (r : Int)), some (dt_I ((n + 1 : Nat) : Int)), none] [] _ _
  refine dt_iconst dX8_goOn_0 ?_
  refine dt_istore dX8_goOn_1 (by decide) rfl ?_
  dsimp only [List.set]
  have lp3 : ∀ (fu : Nat) (i : Nat) (σ1 : dt_Mem), 256 - (i : Int) < (fu : Int) → (i ≤ 256) → (∀ b, b ≠ 35 → b ≠ 36 → σ1 b = σ b) → (xLP E σ1 n (fun T x => G T x ∨ ∃ S c0, S < i ∧ xBst E n S c0 ∧ S ||| r = T ∧ x = c0 * 8 + w)) →  dt_V mX8_goOn (dt_rm 1 0 0) (dt_MC (fun v sh2 σ2 => v = none ∧ sh2 = dt_SH ++ ex ∧ (∀ b, b ≠ 35 → b ≠ 36 → σ2 b = σ b) ∧ xLP E σ2 n (fun T x => G T x ∨ xOf E n w r T x)) 0 0) 0 0 3 [some (dt_R 31), some (dt_I (w : Int)), some (dt_I (r : Int)), some (dt_I ((n + 1 : Nat) : Int)), some (dt_I (i : Int))] [] (dt_SH ++ ex) σ1 := by
    intro fu
    induction fu with
    | zero =>
      intro i σ1 hm ji jf jl
      exfalso
      omega
    | succ fu ih =>
      intro i σ1 hm ji jf jl
      refine dt_wfV fun hwf => ?_
      refine dt_iload dX8_goOn_3 rfl ?_
      refine dt_sipush dX8_goOn_5 (by decide) ?_
      refine dt_cm_ge (tgt := 50) dX8_goOn_8 (by decide) (by first | assumption | exact hwf _ _ | exact dt_b32 _ | omega | exact ⟨by omega, by omega⟩ | decide | exact ⟨by simp (disch := omega) only [dt_up_s, dt_up_k, dt_up_n]; omega, by simp (disch := omega) only [dt_up_s, dt_up_k, dt_up_n]; omega⟩) (by first | assumption | exact hwf _ _ | exact dt_b32 _ | omega | exact ⟨by omega, by omega⟩ | decide | exact ⟨by simp (disch := omega) only [dt_up_s, dt_up_k, dt_up_n]; omega, by simp (disch := omega) only [dt_up_s, dt_up_k, dt_up_n]; omega⟩) (fun c1 => ?_) (fun c1 => ?_)
      · skip
        refine dt_vret dX8_goOn_50 rfl (by decide) (by decide) ?_
        obtain rfl : i = 256 := by omega
        exact ⟨rfl, rfl, jf, jl.ext (fun T x => Iff.rfl)⟩
      · skip
        have hi : i < 256 := by omega
        refine dt_aloadn dX8_goOn_11 rfl rfl ?_
        refine dt_getR dX8_goOn_12 pg_X8_25_8 rfl rfl ?_
        refine dt_iload dX8_goOn_15 rfl ?_
        refine dt_iald dX8_goOn_17 rfl (by first | omega | (simp (disch := omega) only [dt_up_s, dt_up_k, dt_up_n]; omega)) (by first | omega | (simp (disch := omega) only [dt_up_s, dt_up_k, dt_up_n]; omega)) (by decide) ?_
        rw [Int.toNat_natCast]
        refine dt_iloadn dX8_goOn_18 rfl rfl ?_
        refine dt_iconst dX8_goOn_19 ?_
        refine dt_isub dX8_goOn_20 ?_
        refine dt_cm_ne (tgt := 44) dX8_goOn_21 (by decide) (by first | assumption | exact hwf _ _ | exact dt_b32 _ | omega | exact ⟨by omega, by omega⟩ | decide | exact ⟨by simp (disch := omega) only [dt_up_s, dt_up_k, dt_up_n]; omega, by simp (disch := omega) only [dt_up_s, dt_up_k, dt_up_n]; omega⟩) (by first | assumption | exact hwf _ _ | exact dt_b32 _ | omega | exact ⟨by omega, by omega⟩ | decide | exact ⟨by simp (disch := omega) only [dt_up_s, dt_up_k, dt_up_n]; omega, by simp (disch := omega) only [dt_up_s, dt_up_k, dt_up_n]; omega⟩) (fun c2 => ?_) (fun c2 => ?_)
        · skip
          have hnb := (jl.at hi).2 (by omega)
          refine dt_iinc dX8_goOn_44 rfl (by decide) rfl ?_
          dsimp only [List.set]
          refine dt_goto (tgt := 3) dX8_goOn_47 (by decide) ?_
          have jl2 : xLP E σ1 n (fun T x => G T x ∨ ∃ S c0, S < i + 1 ∧ xBst E n S c0 ∧ S ||| r = T ∧ x = c0 * 8 + w) := jl.ext (fun T x => ⟨fun z => z.elim Or.inl (fun ⟨S, c0, a, b⟩ => Or.inr ⟨S, c0, by omega, b⟩), fun z => z.elim Or.inl (fun ⟨S, c0, a, b⟩ => by
            by_cases e : S = i
            · subst e; exact absurd b.1 (hnb c0)
            · exact Or.inr ⟨S, c0, by omega, b⟩)⟩)
          exact dt_lb (ih (i + 1) σ1 (by omega) (by omega) jf jl2) ⟨rfl, rfl, rfl, rfl, rfl, trivial⟩
        · skip
          obtain ⟨c0, hc0, hb0⟩ := (jl.at hi).1 (by omega)
          have hcb := (xR_b hE _ _ _ hb0.1).2
          have hp8 := p88 hn
          have hor := Nat.or_lt_two_pow (n := 8) hi hr
          refine dt_aloadn dX8_goOn_24 rfl rfl ?_
          refine dt_iload dX8_goOn_25 rfl ?_
          refine dt_iloadn dX8_goOn_27 rfl rfl ?_
          refine dt_ior dX8_goOn_28 ?_
          rw [dj_or_nn (by omega) (by omega)]
          refine dt_iloadn dX8_goOn_29 rfl rfl ?_
          refine dt_aloadn dX8_goOn_30 rfl rfl ?_
          refine dt_getR dX8_goOn_31 pg_X8_29_8 rfl rfl ?_
          refine dt_iload dX8_goOn_34 rfl ?_
          refine dt_iald dX8_goOn_36 rfl (by first | omega | (simp (disch := omega) only [dt_up_s, dt_up_k, dt_up_n]; omega)) (by first | omega | (simp (disch := omega) only [dt_up_s, dt_up_k, dt_up_n]; omega)) (by decide) ?_
          rw [Int.toNat_natCast, hc0]
          refine dt_iconst dX8_goOn_37 ?_
          refine dt_ishl dX8_goOn_38 ?_
          rw [dj_shl3 (by omega)]
          refine dt_iloadn dX8_goOn_39 rfl rfl ?_
          refine dt_ior dX8_goOn_40 ?_
          rw [dj_or_nn (by omega) (by omega), or3 _ _ hw]
          refine dt_xV dX8_goOn_41 pc_X8_107 rfl (s_X8_offer jl hor hn (by omega)) rfl rfl ⟨by decide, by decide⟩ rfl rfl (Nat.le_of_ble_eq_true rfl) ⟨by decide, by decide⟩ ?_
          intro vo sho σo hqo
          obtain ⟨rfl, hso, hfo, hLo⟩ := hqo
          obtain rfl := hso.symm
          refine dt_iinc dX8_goOn_44 rfl (by decide) rfl ?_
          dsimp only [List.set]
          refine dt_goto (tgt := 3) dX8_goOn_47 (by decide) ?_
          have jl2 : xLP E σo n (fun T x => G T x ∨ ∃ S c0, S < i + 1 ∧ xBst E n S c0 ∧ S ||| r = T ∧ x = c0 * 8 + w) := hLo.ext (fun T x => ⟨fun z => by
            rcases z with (z | ⟨S, c1, a, b⟩) | ⟨z1, z2⟩
            · exact Or.inl z
            · exact Or.inr ⟨S, c1, by omega, b⟩
            · exact Or.inr ⟨i, c0, by omega, hb0, z1.symm, z2⟩, fun z => by
            rcases z with z | ⟨S, c1, a, b1, b2, b3⟩
            · exact Or.inl (Or.inl z)
            · by_cases e : S = i
              · subst e
                have := (xBst_u hb0 b1).2
                exact Or.inr ⟨b2.symm, by omega⟩
              · exact Or.inl (Or.inr ⟨S, c1, by omega, b1, b2, b3⟩)⟩)
          exact dt_lb (ih (i + 1) σo (by omega) (by omega) (fun b h1 h2 => (hfo b h1 h2).trans (jf b h1 h2)) jl2) ⟨rfl, rfl, rfl, rfl, rfl, trivial⟩
  exact dt_lb (lp3 300 0 σ (by omega) (by omega) (fun b _ _ => rfl) (hL.ext (fun S c => ⟨Or.inl, fun z => z.elim id (fun ⟨_, _, z, _⟩ => absurd z (Nat.not_lt_zero _))⟩))) ⟨rfl, rfl, rfl, rfl, rfl, trivial⟩
theorem s_X8_goOnPerhaps {ex : List dt_Shp} {σ : dt_Mem} {E : xG} {G : Nat → Nat → Prop} {X : dX} {t w n : Nat} {tg : List (Nat × List Nat)} {wd : Nat × List Nat} (hX : cPort σ 7 X) (hok : dX_ok X) (htg : X.1[t]? = some tg) (hwd : tg[w]? = some wd) (hL : xLP E σ n G) (hE : xEok E) (hn : n ≤ 8) : dt_Sp mX8_goOnPerhaps 3 0 0 [dt_R 31, dt_I (t : Int), dt_I (w : Int), dt_I ((n + 1 : Nat) : Int)] (dt_SH ++ ex) σ (fun v sh2 σ2 => v = none ∧ sh2 = dt_SH ++ ex ∧ (∀ b, b ≠ 35 → b ≠ 36 → σ2 b = σ b) ∧ xLP E σ2 n (fun T x => G T x ∨ ∃ r ∈ wd.2, xOf E n w r T x)) := by
  refine dt_Sp_of (by decide) (Nat.le_of_ble_eq_true rfl) ?_
  refine dt_wfV fun hwf => ?_
  obtain ⟨g1, g2, g3⟩ := hX.2.2.2.2.1 t tg htg
  obtain ⟨o1, o2⟩ := hok.2.1 tg (List.mem_of_getElem? htg)
  have e5 := hX.t
  have lt := dt_gl htg
  have lt7 := hok.1
  have hw : xW X t w wd := ⟨tg, htg, hwd⟩
  obtain ⟨w1, w2, w3, w4, w5, w6, w7, w8⟩ := hX.word hw
  have wok := o2 wd (List.mem_of_getElem? hwd)
  have e13 : ((t : Int) * 8 + (w : Int)).toNat = t * 8 + w := by omega
  show dt_V _ _ _ 0 0 0 [some (dt_R 31), some (dt_I (t : Int)), some (dt_I (w : Int)), some (dt_I ((n + 1 : Nat) : Int)), none] [] _ _
  refine dt_iconst dX8_goOnPerhaps_0 ?_
  refine dt_istore dX8_goOnPerhaps_1 (by decide) rfl ?_
  dsimp only [List.set]
  have lp3 : ∀ (fu : Nat) (q : Nat) (σ1 : dt_Mem), (wd.2.length : Int) - q < (fu : Int) → (q ≤ wd.2.length) → (∀ b, b ≠ 35 → b ≠ 36 → σ1 b = σ b) → (xLP E σ1 n (fun T x => G T x ∨ ∃ r ∈ wd.2.take q, xOf E n w r T x)) →  dt_V mX8_goOnPerhaps (dt_rm 3 0 0) (dt_MC (fun v sh2 σ2 => v = none ∧ sh2 = dt_SH ++ ex ∧ (∀ b, b ≠ 35 → b ≠ 36 → σ2 b = σ b) ∧ xLP E σ2 n (fun T x => G T x ∨ ∃ r ∈ wd.2, xOf E n w r T x)) 0 0) 0 0 3 [some (dt_R 31), some (dt_I (t : Int)), some (dt_I (w : Int)), some (dt_I ((n + 1 : Nat) : Int)), some (dt_I (q : Int))] [] (dt_SH ++ ex) σ1 := by
    intro fu
    induction fu with
    | zero =>
      intro q σ1 hm ql jf jl
      exfalso
      omega
    | succ fu ih =>
      intro q σ1 hm ql jf jl
      refine dt_wfV fun hwf => ?_
      refine dt_iload dX8_goOnPerhaps_3 rfl ?_
      refine dt_aloadn dX8_goOnPerhaps_5 rfl rfl ?_
      refine dt_getR dX8_goOnPerhaps_6 pg_X8_9_8 rfl rfl ?_
      refine dt_iloadn dX8_goOnPerhaps_9 rfl rfl ?_
      refine dt_iloadn dX8_goOnPerhaps_10 rfl rfl ?_
      refine dt_xV dX8_goOnPerhaps_11 pc_X8_44 rfl (s_X6_readingsOf dt_p7 ((hX.kept (fun b _ _ => jf b (by omega) (by omega))).hasW hw)) rfl rfl ⟨by decide, by decide⟩ rfl rfl (Nat.le_of_ble_eq_true rfl) ⟨by decide, by decide⟩ (dt_k3 ?_)
      rw [e13, show σ1 (7 + 3) (t * 8 + w) = wd.2.length by rw [jf (7 + 3) (by decide) (by decide)]; exact w7]
      refine dt_cm_ge (tgt := 44) dX8_goOnPerhaps_14 (by decide) (by first | assumption | exact hwf _ _ | exact dt_b32 _ | omega | exact ⟨by omega, by omega⟩ | decide | exact ⟨by simp (disch := omega) only [dt_up_s, dt_up_k, dt_up_n]; omega, by simp (disch := omega) only [dt_up_s, dt_up_k, dt_up_n]; omega⟩) (by first | assumption | exact hwf _ _ | exact dt_b32 _ | omega | exact ⟨by omega, by omega⟩ | decide | exact ⟨by simp (disch := omega) only [dt_up_s, dt_up_k, dt_up_n]; omega, by simp (disch := omega) only [dt_up_s, dt_up_k, dt_up_n]; omega⟩) (fun c1 => ?_) (fun c1 => ?_)
      · skip
        refine dt_vret dX8_goOnPerhaps_44 rfl (by decide) (by decide) ?_
        rw [show wd.2.take q = wd.2 from List.take_of_length_le (by omega)] at jl
        exact ⟨rfl, rfl, jf, jl⟩
      · skip
        obtain ⟨r, hr⟩ := dt_lg (l := wd.2) (i := q) (by omega)
        have hr8 := (wok.2.2.2.2.2 r (List.mem_of_getElem? hr)).2
        refine dt_aloadn dX8_goOnPerhaps_17 rfl rfl ?_
        refine dt_iloadn dX8_goOnPerhaps_18 rfl rfl ?_
        refine dt_aloadn dX8_goOnPerhaps_19 rfl rfl ?_
        refine dt_getR dX8_goOnPerhaps_20 pg_X8_9_8 rfl rfl ?_
        refine dt_iloadn dX8_goOnPerhaps_23 rfl rfl ?_
        refine dt_iloadn dX8_goOnPerhaps_24 rfl rfl ?_
        refine dt_iload dX8_goOnPerhaps_25 rfl ?_
        refine dt_xV dX8_goOnPerhaps_27 pc_X8_50 rfl (s_X6_reading dt_p7 ⟨(hX.kept (fun b _ _ => jf b (by omega) (by omega))).hasW hw, by omega, by omega, by rw [e13, show σ1 (7 + 3) (t * 8 + w) = wd.2.length by rw [jf (7 + 3) (by decide) (by decide)]; exact w7]; omega⟩) rfl rfl ⟨by decide, by decide⟩ rfl rfl (Nat.le_of_ble_eq_true rfl) ⟨by decide, by decide⟩ (dt_k3 ?_)
        rw [show (((t : Int) * 8 + (w : Int)) * 3 + (q : Int)).toNat = (t * 8 + w) * 3 + q by omega, show σ1 (7 + 4) ((t * 8 + w) * 3 + q) = r by rw [jf (7 + 4) (by decide) (by decide)]; exact w8 q r hr]
        refine dt_sipush dX8_goOnPerhaps_30 (by decide) ?_
        refine dt_iand dX8_goOnPerhaps_33 ?_
        rw [dj_and255 hr8]
        refine dt_iloadn dX8_goOnPerhaps_34 rfl rfl ?_
        refine dt_xV dX8_goOnPerhaps_35 pc_X8_104 rfl (s_X8_goOn jl hE hn (by omega) hr8) rfl rfl ⟨by decide, by decide⟩ rfl rfl (Nat.le_of_ble_eq_true rfl) ⟨by decide, by decide⟩ ?_
        intro vo sho σo hqo
        obtain ⟨rfl, hso, hfo, hLo⟩ := hqo
        obtain rfl := hso.symm
        refine dt_iinc dX8_goOnPerhaps_38 rfl (by decide) rfl ?_
        dsimp only [List.set]
        refine dt_goto (tgt := 3) dX8_goOnPerhaps_41 (by decide) ?_
        have jl2 : xLP E σo n (fun T x => G T x ∨ ∃ r ∈ wd.2.take (q + 1), xOf E n w r T x) := hLo.ext (fun T x => by
          rw [List.take_add_one, hr]
          constructor
          · rintro ((z | ⟨r2, a, b⟩) | z)
            · exact Or.inl z
            · exact Or.inr ⟨r2, List.mem_append_left _ a, b⟩
            · exact Or.inr ⟨r, List.mem_append_right _ List.mem_cons_self, z⟩
          · rintro (z | ⟨r2, a, b⟩)
            · exact Or.inl (Or.inl z)
            · rcases List.mem_append.mp a with g | g
              · exact Or.inl (Or.inr ⟨r2, g, b⟩)
              · obtain rfl := List.mem_singleton.mp g; exact Or.inr b)
        exact dt_lb (ih (q + 1) σo (by omega) (by omega) (fun b h1 h2 => (hfo b h1 h2).trans (jf b h1 h2)) jl2) ⟨rfl, rfl, rfl, rfl, rfl, trivial⟩
  exact dt_lb (lp3 9 0 σ (by omega) (by omega) (fun b _ _ => rfl) (hL.ext (fun T x => ⟨Or.inl, fun z => z.elim id (fun ⟨_, z, _⟩ => by simp at z)⟩))) ⟨rfl, rfl, rfl, rfl, rfl, trivial⟩
theorem s_X8_goOnSurely {ex : List dt_Shp} {σ : dt_Mem} {E : xG} {G : Nat → Nat → Prop} {X : dX} {t w n : Nat} {tg : List (Nat × List Nat)} {wd : Nat × List Nat} {m : Nat} (hX : cPort σ 7 X) (hok : dX_ok X) (htg : X.1[t]? = some tg) (hwd : tg[w]? = some wd) (hL : xLP E σ n G) (hE : xEok E) (hn : n ≤ 8) (hm : m < 256) : dt_Sp mX8_goOnSurely 4 0 0 [dt_R 31, dt_I (t : Int), dt_I (w : Int), dt_I (m : Int), dt_I ((n + 1 : Nat) : Int)] (dt_SH ++ ex) σ (fun v sh2 σ2 => v = none ∧ sh2 = dt_SH ++ ex ∧ (∀ b, b ≠ 35 → b ≠ 36 → σ2 b = σ b) ∧ xLP E σ2 n (fun T x => G T x ∨ (xWithin wd.2 m ∧ xOf E n w (xCom wd.2) T x))) := by
  refine dt_Sp_of (by decide) (Nat.le_of_ble_eq_true rfl) ?_
  refine dt_wfV fun hwf => ?_
  obtain ⟨g1, g2, g3⟩ := hX.2.2.2.2.1 t tg htg
  obtain ⟨o1, o2⟩ := hok.2.1 tg (List.mem_of_getElem? htg)
  have e5 := hX.t
  have lt := dt_gl htg
  have lt7 := hok.1
  have hw : xW X t w wd := ⟨tg, htg, hwd⟩
  obtain ⟨w1, w2, w3, w4, w5, w6, w7, w8⟩ := hX.word hw
  have wok := o2 wd (List.mem_of_getElem? hwd)
  have e13 : ((t : Int) * 8 + (w : Int)).toNat = t * 8 + w := by omega
  have hcw := hX.hasW hw
  have hal : xAll wd.2 < 256 := xAll_lt wd.2 (fun r hr => (wok.2.2.2.2.2 r hr).2) 0 (by decide)
  have hco := xCom_lt wd.2
  have hor := Nat.or_lt_two_pow (n := 8) hal hm
  show dt_V _ _ _ 0 0 0 [some (dt_R 31), some (dt_I (t : Int)), some (dt_I (w : Int)), some (dt_I (m : Int)), some (dt_I ((n + 1 : Nat) : Int))] [] _ _
  refine dt_aloadn dX8_goOnSurely_0 rfl rfl ?_
  refine dt_getR dX8_goOnSurely_1 pg_X8_9_8 rfl rfl ?_
  refine dt_iloadn dX8_goOnSurely_4 rfl rfl ?_
  refine dt_iloadn dX8_goOnSurely_5 rfl rfl ?_
  refine dt_xV dX8_goOnSurely_6 pc_X8_78 rfl (s_X6_whole dt_p7 hcw (by rw [e13]; exact w7) w5 (fun q r hq => by have := w8 q r hq; rw [show (((t : Int) * 8 + (w : Int)) * 3 + (q : Int)).toNat = (t * 8 + w) * 3 + q by omega]; exact ⟨this, (wok.2.2.2.2.2 r (List.mem_of_getElem? hq)).2⟩)) rfl rfl ⟨by decide, by decide⟩ rfl rfl (Nat.le_of_ble_eq_true rfl) ⟨by decide, by decide⟩ (dt_k3 ?_)
  refine dt_iloadn dX8_goOnSurely_9 rfl rfl ?_
  refine dt_ior dX8_goOnSurely_10 ?_
  rw [dj_or_nn (by omega) (by omega)]
  refine dt_iloadn dX8_goOnSurely_11 rfl rfl ?_
  refine dt_cm_ne (tgt := 35) dX8_goOnSurely_12 (by decide) (by first | assumption | exact hwf _ _ | exact dt_b32 _ | omega | exact ⟨by omega, by omega⟩ | decide | exact ⟨by simp (disch := omega) only [dt_up_s, dt_up_k, dt_up_n]; omega, by simp (disch := omega) only [dt_up_s, dt_up_k, dt_up_n]; omega⟩) (by first | assumption | exact hwf _ _ | exact dt_b32 _ | omega | exact ⟨by omega, by omega⟩ | decide | exact ⟨by simp (disch := omega) only [dt_up_s, dt_up_k, dt_up_n]; omega, by simp (disch := omega) only [dt_up_s, dt_up_k, dt_up_n]; omega⟩) (fun c1 => ?_) (fun c1 => ?_)
  · skip
    have hno : ¬ xWithin wd.2 m := fun z => by have := xAll_i.mpr z; omega
    refine dt_vret dX8_goOnSurely_35 rfl (by decide) (by decide) ?_
    exact ⟨rfl, rfl, fun b _ _ => rfl, hL.ext (fun T x => ⟨Or.inl, fun z => z.elim id (fun z => absurd z.1 hno)⟩)⟩
  · skip
    have hye : xWithin wd.2 m := xAll_i.mp (by omega)
    refine dt_aloadn dX8_goOnSurely_15 rfl rfl ?_
    refine dt_iloadn dX8_goOnSurely_16 rfl rfl ?_
    refine dt_aloadn dX8_goOnSurely_17 rfl rfl ?_
    refine dt_getR dX8_goOnSurely_18 pg_X8_9_8 rfl rfl ?_
    refine dt_iloadn dX8_goOnSurely_21 rfl rfl ?_
    refine dt_iloadn dX8_goOnSurely_22 rfl rfl ?_
    refine dt_xV dX8_goOnSurely_23 pc_X8_81 rfl (s_X6_common dt_p7 hcw (by rw [e13]; exact w7) w5 (fun q r hq => by have := w8 q r hq; rw [show (((t : Int) * 8 + (w : Int)) * 3 + (q : Int)).toNat = (t * 8 + w) * 3 + q by omega]; exact ⟨this, (wok.2.2.2.2.2 r (List.mem_of_getElem? hq)).2⟩)) rfl rfl ⟨by decide, by decide⟩ rfl rfl (Nat.le_of_ble_eq_true rfl) ⟨by decide, by decide⟩ (dt_k3 ?_)
    refine dt_sipush dX8_goOnSurely_26 (by decide) ?_
    refine dt_iand dX8_goOnSurely_29 ?_
    rw [dj_and255 hco]
    refine dt_iload dX8_goOnSurely_30 rfl ?_
    refine dt_xV dX8_goOnSurely_32 pc_X8_104 rfl (s_X8_goOn hL hE hn (by omega) hco) rfl rfl ⟨by decide, by decide⟩ rfl rfl (Nat.le_of_ble_eq_true rfl) ⟨by decide, by decide⟩ ?_
    intro vo sho σo hqo
    obtain ⟨rfl, hso, hfo, hLo⟩ := hqo
    obtain rfl := hso.symm
    refine dt_vret dX8_goOnSurely_35 rfl (by decide) (by decide) ?_
    exact ⟨rfl, rfl, hfo, hLo.ext (fun T x => ⟨fun z => z.elim Or.inl (fun z => Or.inr ⟨hye, z⟩), fun z => z.elim Or.inl (fun z => Or.inr z.2)⟩)⟩
theorem s_X8_reach {ex : List dt_Shp} {σ : dt_Mem} {X : dX} {t m : Nat} {tg : List (Nat × List Nat)} {b : Int} {s : Prop} (hX : cPort σ 7 X) (hok : dX_ok X) (htg : X.1[t]? = some tg) (hm8 : m < 256) (hb : b = dt_b s) : dt_Sp mX8_reach 5 0 0 [dt_R 31, dt_I (t : Int), dt_I (m : Int), dt_I b] (dt_SH ++ ex) σ (fun v sh2 σ2 => v = none ∧ sh2 = dt_SH ++ ex ∧ (∀ b, b ≠ 35 → b ≠ 36 → σ2 b = σ b) ∧ ∃ n, n ≤ 8 ∧ xLY (xEd s m tg) σ2 n ∧ (n = 8 ∨ ¬ σ2 35 m = -1)) := by
  refine dt_Sp_of (by decide) (Nat.le_of_ble_eq_true rfl) ?_
  refine dt_wfV fun hwf => ?_
  obtain ⟨g1, g2, g3⟩ := hX.2.2.2.2.1 t tg htg
  obtain ⟨o1, o2⟩ := hok.2.1 tg (List.mem_of_getElem? htg)
  have e5 := hX.t
  have lt := dt_gl htg
  have lt7 := hok.1
  have hE : xEok (xEd s m tg) := xEd_ok ⟨o1, o2⟩
  have hb01 : b = 0 ∨ b = 1 := by rw [hb]; exact dt_b01 s
  show dt_V _ _ _ 0 0 0 [some (dt_R 31), some (dt_I (t : Int)), some (dt_I (m : Int)), some (dt_I b), none, none] [] _ _
  refine dt_iconst dX8_reach_0 ?_
  refine dt_istore dX8_reach_1 (by decide) rfl ?_
  dsimp only [List.set]
  have lp3 : ∀ (fu : Nat) (i : Nat) (σ1 : dt_Mem), 256 - (i : Int) < (fu : Int) → (i ≤ 256) → (∀ b, b ≠ 35 → b ≠ 36 → σ1 b = σ b) → (∀ j, j < i → σ1 35 j = -1 ∧ σ1 36 j = 0) →  dt_V mX8_reach (dt_rm 5 0 0) (dt_MC (fun v sh2 σ2 => v = none ∧ sh2 = dt_SH ++ ex ∧ (∀ b, b ≠ 35 → b ≠ 36 → σ2 b = σ b) ∧ ∃ n, n ≤ 8 ∧ xLY (xEd s m tg) σ2 n ∧ (n = 8 ∨ ¬ σ2 35 m = -1)) 0 0) 0 0 3 [some (dt_R 31), some (dt_I (t : Int)), some (dt_I (m : Int)), some (dt_I b), some (dt_I (i : Int)), none] [] (dt_SH ++ ex) σ1 := by
    intro fu
    induction fu with
    | zero =>
      intro i σ1 hm ji jf jm
      exfalso
      omega
    | succ fu ih =>
      intro i σ1 hm ji jf jm
      refine dt_wfV fun hwf => ?_
      refine dt_iload dX8_reach_3 rfl ?_
      refine dt_sipush dX8_reach_5 (by decide) ?_
      refine dt_cm_ge (tgt := 33) dX8_reach_8 (by decide) (by first | assumption | exact hwf _ _ | exact dt_b32 _ | omega | exact ⟨by omega, by omega⟩ | decide | exact ⟨by simp (disch := omega) only [dt_up_s, dt_up_k, dt_up_n]; omega, by simp (disch := omega) only [dt_up_s, dt_up_k, dt_up_n]; omega⟩) (by first | assumption | exact hwf _ _ | exact dt_b32 _ | omega | exact ⟨by omega, by omega⟩ | decide | exact ⟨by simp (disch := omega) only [dt_up_s, dt_up_k, dt_up_n]; omega, by simp (disch := omega) only [dt_up_s, dt_up_k, dt_up_n]; omega⟩) (fun c1 => ?_) (fun c1 => ?_)
      · skip
        refine dt_aloadn dX8_reach_33 rfl rfl ?_
        refine dt_getR dX8_reach_34 pg_X8_25_8 rfl rfl ?_
        refine dt_iconst dX8_reach_37 ?_
        refine dt_iconst dX8_reach_38 ?_
        refine dt_wfV fun hwf => ?_
        refine dt_iast dX8_reach_39 rfl (by first | omega | (simp (disch := omega) only [dt_up_s, dt_up_k, dt_up_n]; omega)) (by first | omega | (simp (disch := omega) only [dt_up_s, dt_up_k, dt_up_n]; omega)) (by decide) (by first | assumption | exact hwf _ _ | exact dt_b32 _ | omega | exact ⟨by omega, by omega⟩ | decide | exact ⟨by simp (disch := omega) only [dt_up_s, dt_up_k, dt_up_n]; omega, by simp (disch := omega) only [dt_up_s, dt_up_k, dt_up_n]; omega⟩) ?_
        refine dt_iconst dX8_reach_40 ?_
        refine dt_istore dX8_reach_41 (by decide) rfl ?_
        dsimp only [List.set]
        have lp43 : ∀ (fu : Nat) (n : Nat) (σ1 : dt_Mem), 9 - (n : Int) < (fu : Int) → (n ≤ 8) → (∀ b, b ≠ 35 → b ≠ 36 → σ1 b = σ b) → (xLY (xEd s m tg) σ1 n) →  dt_V mX8_reach (dt_rm 5 0 0) (dt_MC (fun v sh2 σ2 => v = none ∧ sh2 = dt_SH ++ ex ∧ (∀ b, b ≠ 35 → b ≠ 36 → σ2 b = σ b) ∧ ∃ n, n ≤ 8 ∧ xLY (xEd s m tg) σ2 n ∧ (n = 8 ∨ ¬ σ2 35 m = -1)) 0 0) 0 0 43 [some (dt_R 31), some (dt_I (t : Int)), some (dt_I (m : Int)), some (dt_I b), some (dt_I ((n + 1 : Nat) : Int)), none] [] (dt_SH ++ ex) σ1 := by
          intro fu
          induction fu with
          | zero =>
            intro n σ1 hm nl jf jy
            exfalso
            omega
          | succ fu ih =>
            intro n σ1 hm nl jf jy
            refine dt_wfV fun hwf => ?_
            have ih0 := ih
            refine dt_iload dX8_reach_43 rfl ?_
            refine dt_bipush dX8_reach_45 (by decide) ?_
            refine dt_cm_gt (tgt := 114) dX8_reach_47 (by decide) (by first | assumption | exact hwf _ _ | exact dt_b32 _ | omega | exact ⟨by omega, by omega⟩ | decide | exact ⟨by simp (disch := omega) only [dt_up_s, dt_up_k, dt_up_n]; omega, by simp (disch := omega) only [dt_up_s, dt_up_k, dt_up_n]; omega⟩) (by first | assumption | exact hwf _ _ | exact dt_b32 _ | omega | exact ⟨by omega, by omega⟩ | decide | exact ⟨by simp (disch := omega) only [dt_up_s, dt_up_k, dt_up_n]; omega, by simp (disch := omega) only [dt_up_s, dt_up_k, dt_up_n]; omega⟩) (fun c2 => ?_) (fun c2 => ?_)
            · skip
              have hn8 : n = 8 := by omega
              refine dt_vret dX8_reach_114 rfl (by decide) (by decide) ?_
              exact ⟨rfl, rfl, jf, n, nl, jy, Or.inl hn8⟩
            · skip
              refine dt_aloadn dX8_reach_50 rfl rfl ?_
              refine dt_getR dX8_reach_51 pg_X8_25_8 rfl rfl ?_
              refine dt_iloadn dX8_reach_54 rfl rfl ?_
              refine dt_iald dX8_reach_55 rfl (by first | omega | (simp (disch := omega) only [dt_up_s, dt_up_k, dt_up_n]; omega)) (by first | omega | (simp (disch := omega) only [dt_up_s, dt_up_k, dt_up_n]; omega)) (by decide) ?_
              rw [Int.toNat_natCast]
              refine dt_iconst dX8_reach_56 ?_
              refine dt_cm_ne (tgt := 114) dX8_reach_57 (by decide) (by first | assumption | exact hwf _ _ | exact dt_b32 _ | omega | exact ⟨by omega, by omega⟩ | decide | exact ⟨by simp (disch := omega) only [dt_up_s, dt_up_k, dt_up_n]; omega, by simp (disch := omega) only [dt_up_s, dt_up_k, dt_up_n]; omega⟩) (by first | assumption | exact hwf _ _ | exact dt_b32 _ | omega | exact ⟨by omega, by omega⟩ | decide | exact ⟨by simp (disch := omega) only [dt_up_s, dt_up_k, dt_up_n]; omega, by simp (disch := omega) only [dt_up_s, dt_up_k, dt_up_n]; omega⟩) (fun c3 => ?_) (fun c3 => ?_)
              · skip
                have hne : ¬ σ1 35 m = -1 := by assumption
                refine dt_vret dX8_reach_114 rfl (by decide) (by decide) ?_
                exact ⟨rfl, rfl, jf, n, nl, jy, Or.inr hne⟩
              · skip
                refine dt_iconst dX8_reach_60 ?_
                refine dt_istore dX8_reach_61 (by decide) rfl ?_
                dsimp only [List.set]
                have lp63 : ∀ (fu : Nat) (w : Nat) (σ2 : dt_Mem), (tg.length : Int) - w < (fu : Int) → (w ≤ tg.length) → (∀ b, b ≠ 35 → b ≠ 36 → σ2 b = σ b) → (xLP (xEd s m tg) σ2 n (fun S c => ∃ w2 r, w2 < w ∧ (xEd s m tg) w2 r ∧ xOf (xEd s m tg) n w2 r S c)) →  dt_V mX8_reach (dt_rm 5 0 0) (dt_MC (fun v sh2 σ2 => v = none ∧ sh2 = dt_SH ++ ex ∧ (∀ b, b ≠ 35 → b ≠ 36 → σ2 b = σ b) ∧ ∃ n, n ≤ 8 ∧ xLY (xEd s m tg) σ2 n ∧ (n = 8 ∨ ¬ σ2 35 m = -1)) 0 0) 0 0 63 [some (dt_R 31), some (dt_I (t : Int)), some (dt_I (m : Int)), some (dt_I b), some (dt_I ((n + 1 : Nat) : Int)), some (dt_I (w : Int))] [] (dt_SH ++ ex) σ2 := by
                  intro fu
                  induction fu with
                  | zero =>
                    intro w σ2 hm wl kf kl
                    exfalso
                    omega
                  | succ fu ih =>
                    intro w σ2 hm wl kf kl
                    refine dt_wfV fun hwf => ?_
                    have hX2 : cPort σ2 7 X := hX.kept (fun b _ _ => kf b (by omega) (by omega))
                    refine dt_iload dX8_reach_63 rfl ?_
                    refine dt_aloadn dX8_reach_65 rfl rfl ?_
                    refine dt_getR dX8_reach_66 pg_X8_9_8 rfl rfl ?_
                    refine dt_iloadn dX8_reach_69 rfl rfl ?_
                    refine dt_xV dX8_reach_70 pc_X8_65 rfl (s_X6_wordsOf dt_p7 ⟨by omega, by rw [kf 7 (by decide) (by decide)]; omega, by omega⟩) rfl rfl ⟨by decide, by decide⟩ rfl rfl (Nat.le_of_ble_eq_true rfl) ⟨by decide, by decide⟩ (dt_k3 ?_)
                    rw [Int.toNat_natCast, show σ2 (7 + 1) t = tg.length by rw [kf (7 + 1) (by decide) (by decide)]; exact g2]
                    refine dt_cm_ge (tgt := 108) dX8_reach_73 (by decide) (by first | assumption | exact hwf _ _ | exact dt_b32 _ | omega | exact ⟨by omega, by omega⟩ | decide | exact ⟨by simp (disch := omega) only [dt_up_s, dt_up_k, dt_up_n]; omega, by simp (disch := omega) only [dt_up_s, dt_up_k, dt_up_n]; omega⟩) (by first | assumption | exact hwf _ _ | exact dt_b32 _ | omega | exact ⟨by omega, by omega⟩ | decide | exact ⟨by simp (disch := omega) only [dt_up_s, dt_up_k, dt_up_n]; omega, by simp (disch := omega) only [dt_up_s, dt_up_k, dt_up_n]; omega⟩) (fun c4 => ?_) (fun c4 => ?_)
                    · skip
                      refine dt_iinc dX8_reach_108 rfl (by decide) rfl ?_
                      dsimp only [List.set]
                      refine dt_goto (tgt := 43) dX8_reach_111 (by decide) ?_
                      have jy2 : xLY (xEd s m tg) σ2 (n + 1) := (kl.ext (fun S c => ⟨fun ⟨w2, r, a, b⟩ => ⟨w2, r, b⟩, fun ⟨w2, r, a, b⟩ => ⟨w2, r, by obtain ⟨wd, z, _⟩ := a; have := dt_gl z; omega, a, b⟩⟩)).y hE
                      exact dt_lb (ih0 (n + 1) σ2 (by omega) (by omega) kf jy2) ⟨rfl, rfl, rfl, rfl, (dt_ie rfl), trivial⟩
                    · skip
                      obtain ⟨wd, hwd⟩ := dt_lg (l := tg) (i := w) (by omega)
                      refine dt_iloadn dX8_reach_76 rfl rfl ?_
                      refine dt_if_eq (tgt := 93) dX8_reach_77 (by decide) (by first | assumption | exact hwf _ _ | exact dt_b32 _ | omega | exact ⟨by omega, by omega⟩ | decide | exact ⟨by simp (disch := omega) only [dt_up_s, dt_up_k, dt_up_n]; omega, by simp (disch := omega) only [dt_up_s, dt_up_k, dt_up_n]; omega⟩) (fun c5 => ?_) (fun c5 => ?_)
                      · skip
                        have hs : ¬ s := fun z => by have h2 := hb; rw [dt_bT z] at h2; omega
                        refine dt_aloadn dX8_reach_93 rfl rfl ?_
                        refine dt_iloadn dX8_reach_94 rfl rfl ?_
                        refine dt_iload dX8_reach_95 rfl ?_
                        refine dt_iload dX8_reach_97 rfl ?_
                        refine dt_xV dX8_reach_99 pc_X8_100 rfl (s_X8_goOnPerhaps hX2 hok htg hwd kl hE nl) rfl rfl ⟨by decide, by decide⟩ rfl rfl (Nat.le_of_ble_eq_true rfl) ⟨by decide, by decide⟩ ?_
                        intro vo sho σo hqo
                        obtain ⟨rfl, hso, hfo, hLo⟩ := hqo
                        obtain rfl := hso.symm
                        refine dt_iinc dX8_reach_102 rfl (by decide) rfl ?_
                        dsimp only [List.set]
                        refine dt_goto (tgt := 63) dX8_reach_105 (by decide) ?_
                        have jl2 : xLP (xEd s m tg) σo n (fun S c => ∃ w2 r, w2 < w + 1 ∧ (xEd s m tg) w2 r ∧ xOf (xEd s m tg) n w2 r S c) := hLo.ext (fun T x => ⟨fun z => by
                          rcases z with ⟨w2, r, a, b⟩ | ⟨r, z1, z2⟩
                          · exact ⟨w2, r, by omega, b⟩
                          · exact ⟨w, r, by omega, ⟨wd, hwd, Or.inr ⟨hs, z1⟩⟩, z2⟩, fun z => by
                          obtain ⟨w2, r, a, ⟨wd2, b1, b2⟩, b3⟩ := z
                          by_cases e : w2 = w
                          · subst e
                            obtain rfl := Option.some.inj (hwd.symm.trans b1)
                            rcases b2 with ⟨c1, c2, rfl⟩ | ⟨c1, c2⟩
                            · exact absurd c1 hs
                            · exact Or.inr ⟨r, c2, b3⟩
                          · exact Or.inl ⟨w2, r, by omega, ⟨wd2, b1, b2⟩, b3⟩⟩)
                        exact dt_lb (ih (w + 1) σo (by omega) (by omega) (fun b h1 h2 => (hfo b h1 h2).trans (kf b h1 h2)) jl2) ⟨rfl, rfl, rfl, rfl, rfl, rfl, trivial⟩
                      · skip
                        have hs : s := Classical.byContradiction fun z => by have h2 := hb; rw [dt_bF z] at h2; omega
                        refine dt_aloadn dX8_reach_80 rfl rfl ?_
                        refine dt_iloadn dX8_reach_81 rfl rfl ?_
                        refine dt_iload dX8_reach_82 rfl ?_
                        refine dt_iloadn dX8_reach_84 rfl rfl ?_
                        refine dt_iload dX8_reach_85 rfl ?_
                        refine dt_xV dX8_reach_87 pc_X8_96 rfl (s_X8_goOnSurely hX2 hok htg hwd kl hE nl hm8) rfl rfl ⟨by decide, by decide⟩ rfl rfl (Nat.le_of_ble_eq_true rfl) ⟨by decide, by decide⟩ ?_
                        intro vo sho σo hqo
                        obtain ⟨rfl, hso, hfo, hLo⟩ := hqo
                        obtain rfl := hso.symm
                        refine dt_goto (tgt := 102) dX8_reach_90 (by decide) ?_
                        refine dt_iinc dX8_reach_102 rfl (by decide) rfl ?_
                        dsimp only [List.set]
                        refine dt_goto (tgt := 63) dX8_reach_105 (by decide) ?_
                        have jl2 : xLP (xEd s m tg) σo n (fun S c => ∃ w2 r, w2 < w + 1 ∧ (xEd s m tg) w2 r ∧ xOf (xEd s m tg) n w2 r S c) := hLo.ext (fun T x => ⟨fun z => by
                          rcases z with ⟨w2, r, a, b⟩ | ⟨z1, z2⟩
                          · exact ⟨w2, r, by omega, b⟩
                          · exact ⟨w, xCom wd.2, by omega, ⟨wd, hwd, Or.inl ⟨hs, z1, rfl⟩⟩, z2⟩, fun z => by
                          obtain ⟨w2, r, a, ⟨wd2, b1, b2⟩, b3⟩ := z
                          by_cases e : w2 = w
                          · subst e
                            obtain rfl := Option.some.inj (hwd.symm.trans b1)
                            rcases b2 with ⟨c1, c2, rfl⟩ | ⟨c1, c2⟩
                            · exact Or.inr ⟨c2, b3⟩
                            · exact absurd hs c1
                          · exact Or.inl ⟨w2, r, by omega, ⟨wd2, b1, b2⟩, b3⟩⟩)
                        exact dt_lb (ih (w + 1) σo (by omega) (by omega) (fun b h1 h2 => (hfo b h1 h2).trans (kf b h1 h2)) jl2) ⟨rfl, rfl, rfl, rfl, rfl, rfl, trivial⟩
                exact dt_lb (lp63 9 0 σ1 (by omega) (by omega) jf (jy.p.ext (fun S c => ⟨fun z => z.elim, fun ⟨_, _, z, _⟩ => absurd z (Nat.not_lt_zero _)⟩))) ⟨rfl, rfl, rfl, rfl, rfl, rfl, trivial⟩
        obtain rfl : i = 256 := by omega
        have jy0 : xLY (xEd s m tg) (dt_up σ1 35 0 0) 0 := fun S hS => by
          by_cases e : S = 0
          · subst e
            exact Or.inl ⟨0, 0, Nat.le_refl 0, dt_up_s, by rw [dt_up_n (by decide)]; exact (jm 0 hS).2, ⟨rfl, rfl⟩, fun c _ => Nat.zero_le c, fun d hd => absurd hd (Nat.not_lt_zero d)⟩
          · refine Or.inr ⟨by rw [dt_up_k e]; exact (jm S hS).1, fun d hd c hc => ?_⟩
            obtain rfl : d = 0 := by omega
            exact e hc.1
        exact dt_lb (lp43 10 0 _ (by omega) (by omega) (fun b h1 h2 => (dt_up_o h1).trans (jf b h1 h2)) jy0) ⟨rfl, rfl, rfl, rfl, (dt_ie rfl), trivial⟩
      · skip
        refine dt_aloadn dX8_reach_11 rfl rfl ?_
        refine dt_getR dX8_reach_12 pg_X8_25_8 rfl rfl ?_
        refine dt_iload dX8_reach_15 rfl ?_
        refine dt_iconst dX8_reach_17 ?_
        refine dt_wfV fun hwf => ?_
        refine dt_iast dX8_reach_18 rfl (by first | omega | (simp (disch := omega) only [dt_up_s, dt_up_k, dt_up_n]; omega)) (by first | omega | (simp (disch := omega) only [dt_up_s, dt_up_k, dt_up_n]; omega)) (by decide) (by first | assumption | exact hwf _ _ | exact dt_b32 _ | omega | exact ⟨by omega, by omega⟩ | decide | exact ⟨by simp (disch := omega) only [dt_up_s, dt_up_k, dt_up_n]; omega, by simp (disch := omega) only [dt_up_s, dt_up_k, dt_up_n]; omega⟩) ?_
        rw [Int.toNat_natCast]
        refine dt_aloadn dX8_reach_19 rfl rfl ?_
        refine dt_getR dX8_reach_20 pg_X8_29_8 rfl rfl ?_
        refine dt_iload dX8_reach_23 rfl ?_
        refine dt_iconst dX8_reach_25 ?_
        refine dt_wfV fun hwf => ?_
        refine dt_iast dX8_reach_26 rfl (by first | omega | (simp (disch := omega) only [dt_up_s, dt_up_k, dt_up_n]; omega)) (by first | omega | (simp (disch := omega) only [dt_up_s, dt_up_k, dt_up_n]; omega)) (by decide) (by first | assumption | exact hwf _ _ | exact dt_b32 _ | omega | exact ⟨by omega, by omega⟩ | decide | exact ⟨by simp (disch := omega) only [dt_up_s, dt_up_k, dt_up_n]; omega, by simp (disch := omega) only [dt_up_s, dt_up_k, dt_up_n]; omega⟩) ?_
        rw [Int.toNat_natCast]
        refine dt_iinc dX8_reach_27 rfl (by decide) rfl ?_
        dsimp only [List.set]
        refine dt_goto (tgt := 3) dX8_reach_30 (by decide) ?_
        have jm2 : ∀ j, j < i + 1 → dt_up (dt_up σ1 35 i (-1)) 36 i 0 35 j = -1 ∧ dt_up (dt_up σ1 35 i (-1)) 36 i 0 36 j = 0 := fun j hj => by
          by_cases e : j = i
          · subst e; exact ⟨by rw [dt_up_n (by decide), dt_up_s], dt_up_s⟩
          · obtain ⟨a, c⟩ := jm j (by omega)
            exact ⟨by rw [dt_up_n (by decide), dt_up_k e]; exact a, by rw [dt_up_k e, dt_up_n (by decide)]; exact c⟩
        exact dt_lb (ih (i + 1) _ (by omega) (by omega) (fun b h1 h2 => by rw [dt_up_o h2, dt_up_o h1]; exact jf b h1 h2) jm2) ⟨rfl, rfl, rfl, rfl, rfl, trivial⟩
  exact dt_lb (lp3 300 0 σ (by omega) (by omega) (fun b _ _ => rfl) (fun j hj => absurd hj (Nat.not_lt_zero j))) ⟨rfl, rfl, rfl, rfl, rfl, trivial⟩
theorem s_X8_shortestOf {ex : List dt_Shp} {σ : dt_Mem} {X : dX} {t m : Nat} {tg : List (Nat × List Nat)} {b k : Int} {s : Prop} (hX : cPort σ 7 X) (hok : dX_ok X) (htg : X.1[t]? = some tg) (hm8 : m < 256) (hb : b = dt_b s) (hk : -1 ≤ k) (hk2 : dt_in32 k) : dt_Sp mX8_shortestOf 6 0 0 [dt_R 31, dt_I (t : Int), dt_I (m : Int), dt_I b, dt_I k] (dt_SH ++ ex) σ (fun v sh2 σ2 => v = some (dt_I (xSht (xEd s m tg) m k)) ∧ sh2 = dt_SH ++ ex ∧ (∀ b, b ≠ 35 → b ≠ 36 → σ2 b = σ b)) := by
  refine dt_Sp_of (by decide) (Nat.le_of_ble_eq_true rfl) ?_
  refine dt_wfV fun hwf => ?_
  obtain ⟨g1, g2, g3⟩ := hX.2.2.2.2.1 t tg htg
  obtain ⟨o1, o2⟩ := hok.2.1 tg (List.mem_of_getElem? htg)
  have e5 := hX.t
  have lt := dt_gl htg
  have lt7 := hok.1
  have hE : xEok (xEd s m tg) := xEd_ok ⟨o1, o2⟩
  obtain ⟨hk3, hk4⟩ := id hk2
  show dt_V _ _ _ 0 0 0 [some (dt_R 31), some (dt_I (t : Int)), some (dt_I (m : Int)), some (dt_I b), some (dt_I k), none] [] _ _
  refine dt_iloadn dX8_shortestOf_0 rfl rfl ?_
  refine dt_if_lt (tgt := 11) dX8_shortestOf_1 (by decide) (by first | assumption | exact hwf _ _ | exact dt_b32 _ | omega | exact ⟨by omega, by omega⟩ | decide | exact ⟨by simp (disch := omega) only [dt_up_s, dt_up_k, dt_up_n]; omega, by simp (disch := omega) only [dt_up_s, dt_up_k, dt_up_n]; omega⟩) (fun c1 => ?_) (fun c1 => ?_)
  · skip
    first | exact absurd c1 (by omega) | exact absurd c1 (by decide) | exact absurd rfl c1
  · skip
    refine dt_iloadn dX8_shortestOf_4 rfl rfl ?_
    refine dt_sipush dX8_shortestOf_5 (by decide) ?_
    refine dt_cm_lt (tgt := 14) dX8_shortestOf_8 (by decide) (by first | assumption | exact hwf _ _ | exact dt_b32 _ | omega | exact ⟨by omega, by omega⟩ | decide | exact ⟨by simp (disch := omega) only [dt_up_s, dt_up_k, dt_up_n]; omega, by simp (disch := omega) only [dt_up_s, dt_up_k, dt_up_n]; omega⟩) (by first | assumption | exact hwf _ _ | exact dt_b32 _ | omega | exact ⟨by omega, by omega⟩ | decide | exact ⟨by simp (disch := omega) only [dt_up_s, dt_up_k, dt_up_n]; omega, by simp (disch := omega) only [dt_up_s, dt_up_k, dt_up_n]; omega⟩) (fun c2 => ?_) (fun c2 => ?_)
    · skip
      refine dt_aloadn dX8_shortestOf_14 rfl rfl ?_
      refine dt_iloadn dX8_shortestOf_15 rfl rfl ?_
      refine dt_iloadn dX8_shortestOf_16 rfl rfl ?_
      refine dt_iloadn dX8_shortestOf_17 rfl rfl ?_
      refine dt_xV dX8_shortestOf_18 pc_X8_92 rfl (s_X8_reach hX hok htg hm8 hb) rfl rfl ⟨by decide, by decide⟩ rfl rfl (Nat.le_of_ble_eq_true rfl) ⟨by decide, by decide⟩ ?_
      intro v1 sh1 σ1 hq1
      obtain ⟨rfl, hs1, hf1, n, hn8, hY1, hN1⟩ := hq1
      obtain rfl := hs1.symm
      have hNr := hN1
      have hYr := hY1
      refine dt_wfV fun hwf => ?_
      refine dt_aloadn dX8_shortestOf_21 rfl rfl ?_
      refine dt_getR dX8_shortestOf_22 pg_X8_25_8 rfl rfl ?_
      refine dt_iloadn dX8_shortestOf_25 rfl rfl ?_
      refine dt_iald dX8_shortestOf_26 rfl (by first | omega | (simp (disch := omega) only [dt_up_s, dt_up_k, dt_up_n]; omega)) (by first | omega | (simp (disch := omega) only [dt_up_s, dt_up_k, dt_up_n]; omega)) (by decide) ?_
      rw [Int.toNat_natCast]
      refine dt_istore dX8_shortestOf_27 (by decide) rfl ?_
      dsimp only [List.set]
      refine dt_iload dX8_shortestOf_29 rfl ?_
      refine dt_iconst dX8_shortestOf_31 ?_
      refine dt_cm_eq (tgt := 42) dX8_shortestOf_32 (by decide) (by first | assumption | exact hwf _ _ | exact dt_b32 _ | omega | exact ⟨by omega, by omega⟩ | decide | exact ⟨by simp (disch := omega) only [dt_up_s, dt_up_k, dt_up_n]; omega, by simp (disch := omega) only [dt_up_s, dt_up_k, dt_up_n]; omega⟩) (by first | assumption | exact hwf _ _ | exact dt_b32 _ | omega | exact ⟨by omega, by omega⟩ | decide | exact ⟨by simp (disch := omega) only [dt_up_s, dt_up_k, dt_up_n]; omega, by simp (disch := omega) only [dt_up_s, dt_up_k, dt_up_n]; omega⟩) (fun c3 => ?_) (fun c3 => ?_)
      · skip
        obtain ⟨d, c, h1, h2, h3, h4⟩ | ⟨h1, h2⟩ := hYr m hm8
        · omega
        have hno : xSht (xEd s m tg) m k = -1000000 := xSht_n (fun d c z => h2 d (by have z1 := z.1; exact hNr.elim (fun g => by omega) (fun g => absurd h1 g)) c z.2.1)
        refine dt_ldc dX8_shortestOf_42 pk_X8_84 ?_
        refine dt_iret dX8_shortestOf_44 rfl (by decide) (by decide) ?_
        exact ⟨by rw [hno], rfl, hf1⟩
      · skip
        obtain ⟨d, c, h1, h2, h3, h4⟩ | ⟨h1, h2⟩ := hYr m hm8
        rotate_left
        · omega
        have hmin : xMin (xEd s m tg) m d c := ⟨by omega, h4⟩
        have hcb := (xR_b hE _ _ _ h4.1).2
        have hp8 := p88 (show d ≤ 8 by omega)
        refine dt_iload dX8_shortestOf_35 rfl ?_
        refine dt_iload dX8_shortestOf_37 rfl ?_
        refine dt_cm_lt (tgt := 45) dX8_shortestOf_39 (by decide) (by first | assumption | exact hwf _ _ | exact dt_b32 _ | omega | exact ⟨by omega, by omega⟩ | decide | exact ⟨by simp (disch := omega) only [dt_up_s, dt_up_k, dt_up_n]; omega, by simp (disch := omega) only [dt_up_s, dt_up_k, dt_up_n]; omega⟩) (by first | assumption | exact hwf _ _ | exact dt_b32 _ | omega | exact ⟨by omega, by omega⟩ | decide | exact ⟨by simp (disch := omega) only [dt_up_s, dt_up_k, dt_up_n]; omega, by simp (disch := omega) only [dt_up_s, dt_up_k, dt_up_n]; omega⟩) (fun c4 => ?_) (fun c4 => ?_)
        · skip
          refine dt_iload dX8_shortestOf_45 rfl ?_
          refine dt_if_ge (tgt := 55) dX8_shortestOf_47 (by decide) (by first | assumption | exact hwf _ _ | exact dt_b32 _ | omega | exact ⟨by omega, by omega⟩ | decide | exact ⟨by simp (disch := omega) only [dt_up_s, dt_up_k, dt_up_n]; omega, by simp (disch := omega) only [dt_up_s, dt_up_k, dt_up_n]; omega⟩) (fun c5 => ?_) (fun c5 => ?_)
          · skip
            have hyes : xSht (xEd s m tg) m k = ((c / 8 ^ (d - 1 - k.toNat) % 8 : Nat) : Int) := by rw [xSht_y hmin, if_neg (by omega), if_neg (by omega)]
            refine dt_aloadn dX8_shortestOf_55 rfl rfl ?_
            refine dt_getR dX8_shortestOf_56 pg_X8_29_8 rfl rfl ?_
            refine dt_iloadn dX8_shortestOf_59 rfl rfl ?_
            refine dt_iald dX8_shortestOf_60 rfl (by first | omega | (simp (disch := omega) only [dt_up_s, dt_up_k, dt_up_n]; omega)) (by first | omega | (simp (disch := omega) only [dt_up_s, dt_up_k, dt_up_n]; omega)) (by decide) ?_
            rw [Int.toNat_natCast, h3]
            refine dt_iconst dX8_shortestOf_61 ?_
            refine dt_iload dX8_shortestOf_62 rfl ?_
            refine dt_iconst dX8_shortestOf_64 ?_
            refine dt_isub dX8_shortestOf_65 ?_
            refine dt_iload dX8_shortestOf_66 rfl ?_
            refine dt_isub dX8_shortestOf_68 ?_
            refine dt_imul dX8_shortestOf_69 ?_
            rw [h2, show (3 : Int) * ((d : Int) - 1 - k) = ((3 * (d - 1 - k.toNat) : Nat) : Int) by omega]
            refine dt_ishr dX8_shortestOf_70 ?_
            have e8 : (2 : Nat) ^ (3 * (d - 1 - k.toNat)) = 8 ^ (d - 1 - k.toNat) := by rw [Nat.pow_mul]
            have hdl : c / 8 ^ (d - 1 - k.toNat) ≤ c := Nat.div_le_self _ _
            rw [dj_shr_nn (by omega) (by omega), e8]
            refine dt_bipush dX8_shortestOf_71 (by decide) ?_
            refine dt_iand dX8_shortestOf_73 ?_
            rw [dj_and7 (by omega)]
            refine dt_iret dX8_shortestOf_74 rfl (by decide) (by decide) ?_
            exact ⟨by rw [hyes], rfl, hf1⟩
          · skip
            have hyes : xSht (xEd s m tg) m k = (d : Int) := by rw [xSht_y hmin, if_pos (by omega)]
            refine dt_iload dX8_shortestOf_50 rfl ?_
            refine dt_goto (tgt := 74) dX8_shortestOf_52 (by decide) ?_
            rw [h2]
            refine dt_iret dX8_shortestOf_74 rfl (by decide) (by decide) ?_
            exact ⟨by rw [hyes], rfl, hf1⟩
        · skip
          have hno : xSht (xEd s m tg) m k = -1000000 := by rw [xSht_y hmin, if_neg (by omega), if_pos (by omega)]
          refine dt_ldc dX8_shortestOf_42 pk_X8_84 ?_
          refine dt_iret dX8_shortestOf_44 rfl (by decide) (by decide) ?_
          exact ⟨by rw [hno], rfl, hf1⟩
    · skip
      first | exact absurd c2 (by omega) | exact absurd c2 (by decide) | exact absurd rfl c2
theorem s_X11_shortest {ex : List dt_Shp} {σ : dt_Mem} {A : dS} {day m what k : Int} (hI : cInv ex σ A) (h_day : dt_in32 day) (h_m : dt_in32 m) (h_what : dt_in32 what) (h_k : dt_in32 k) : dt_Sp mX11_shortest 7 0 0 [dt_R 0, dt_I day, dt_I m, dt_I what, dt_I k] (dt_SH ++ ex) σ (fun v sh2 σ2 => v = some (dt_I (oShort A day m what k).1) ∧ sh2 = dt_SH ++ ex ∧ cEnd ex σ σ2 (oShort A day m what k).2) := by
  refine dt_Sp_of (by decide) (Nat.le_of_ble_eq_true rfl) ?_
  refine dt_wfV fun hwf => ?_
  have hc := hI.2.2.1.1
  have hok := hI.2.2.1.2.1
  have e5 := hc.t
  have e6 := hc.p
  have e7 := hc.1
  show dt_V _ _ _ 0 0 0 [some (dt_R 0), some (dt_I day), some (dt_I m), some (dt_I what), some (dt_I k)] [] _ _
  refine dt_aloadn dX11_shortest_0 rfl rfl ?_
  refine dt_xV dX11_shortest_1 pc_X11_132 rfl s_X11_hasNoPort rfl rfl ⟨by decide, by decide⟩ rfl rfl (Nat.le_of_ble_eq_true rfl) ⟨by decide, by decide⟩ (dt_k3 ?_)
  refine dt_if_eq (tgt := 10) dX11_shortest_4 (by decide) (by first | assumption | exact hwf _ _ | exact dt_b32 _ | omega | exact ⟨by omega, by omega⟩ | decide | exact ⟨by simp (disch := omega) only [dt_up_s, dt_up_k, dt_up_n]; omega, by simp (disch := omega) only [dt_up_s, dt_up_k, dt_up_n]; omega⟩) (fun c1 => ?_) (fun c1 => ?_)
  · skip
    try simp only [dt_b0, dt_b1, Decidable.not_not, Classical.not_not] at c1
    refine dt_iloadn dX11_shortest_10 rfl rfl ?_
    refine dt_xS dX11_shortest_11 pc_X11_169 (s_X11_isDay (by first | assumption | exact hwf _ _ | exact dt_b32 _ | omega | exact ⟨by omega, by omega⟩ | decide | exact ⟨by simp (disch := omega) only [dt_up_s, dt_up_k, dt_up_n]; omega, by simp (disch := omega) only [dt_up_s, dt_up_k, dt_up_n]; omega⟩)) rfl rfl ⟨by decide, by decide⟩ (Nat.le_of_ble_eq_true rfl) ⟨by decide, by decide⟩ (dt_k3 ?_)
    refine dt_if_eq (tgt := 39) dX11_shortest_14 (by decide) (by first | assumption | exact hwf _ _ | exact dt_b32 _ | omega | exact ⟨by omega, by omega⟩ | decide | exact ⟨by simp (disch := omega) only [dt_up_s, dt_up_k, dt_up_n]; omega, by simp (disch := omega) only [dt_up_s, dt_up_k, dt_up_n]; omega⟩) (fun c2 => ?_) (fun c2 => ?_)
    · skip
      try simp only [dt_b0, dt_b1, Decidable.not_not, Classical.not_not] at c2
      refine dt_ldc dX11_shortest_39 pk_X11_74 ?_
      refine dt_iret dX11_shortest_41 rfl (by decide) (by decide) ?_
      have e : oShort A day m what k = (-1000001, A) := by
        unfold oShort
        rw [if_neg (fun q => by have := dt_nn.mpr q; omega), if_pos (by omega)]
      rw [e]
      exact ⟨rfl, rfl, hI, fun b _ _ => rfl⟩
    · skip
      try simp only [dt_b0, dt_b1, Decidable.not_not, Classical.not_not] at c2
      refine dt_iloadn dX11_shortest_17 rfl rfl ?_
      refine dt_xS dX11_shortest_18 pc_X11_182 (s_X11_isSet (by first | assumption | exact hwf _ _ | exact dt_b32 _ | omega | exact ⟨by omega, by omega⟩ | decide | exact ⟨by simp (disch := omega) only [dt_up_s, dt_up_k, dt_up_n]; omega, by simp (disch := omega) only [dt_up_s, dt_up_k, dt_up_n]; omega⟩)) rfl rfl ⟨by decide, by decide⟩ (Nat.le_of_ble_eq_true rfl) ⟨by decide, by decide⟩ (dt_k3 ?_)
      refine dt_if_eq (tgt := 39) dX11_shortest_21 (by decide) (by first | assumption | exact hwf _ _ | exact dt_b32 _ | omega | exact ⟨by omega, by omega⟩ | decide | exact ⟨by simp (disch := omega) only [dt_up_s, dt_up_k, dt_up_n]; omega, by simp (disch := omega) only [dt_up_s, dt_up_k, dt_up_n]; omega⟩) (fun c3 => ?_) (fun c3 => ?_)
      · skip
        try simp only [dt_b0, dt_b1, Decidable.not_not, Classical.not_not] at c3
        refine dt_ldc dX11_shortest_39 pk_X11_74 ?_
        refine dt_iret dX11_shortest_41 rfl (by decide) (by decide) ?_
        have e : oShort A day m what k = (-1000001, A) := by
          unfold oShort
          rw [if_neg (fun q => by have := dt_nn.mpr q; omega), if_pos (by omega)]
        rw [e]
        exact ⟨rfl, rfl, hI, fun b _ _ => rfl⟩
      · skip
        try simp only [dt_b0, dt_b1, Decidable.not_not, Classical.not_not] at c3
        refine dt_iloadn dX11_shortest_24 rfl rfl ?_
        refine dt_iconst dX11_shortest_25 ?_
        refine dt_iconst dX11_shortest_26 ?_
        refine dt_xS dX11_shortest_27 pc_X11_70 (s_X11_isWithin (by first | assumption | exact hwf _ _ | exact dt_b32 _ | omega | exact ⟨by omega, by omega⟩ | decide | exact ⟨by simp (disch := omega) only [dt_up_s, dt_up_k, dt_up_n]; omega, by simp (disch := omega) only [dt_up_s, dt_up_k, dt_up_n]; omega⟩) (by first | assumption | exact hwf _ _ | exact dt_b32 _ | omega | exact ⟨by omega, by omega⟩ | decide | exact ⟨by simp (disch := omega) only [dt_up_s, dt_up_k, dt_up_n]; omega, by simp (disch := omega) only [dt_up_s, dt_up_k, dt_up_n]; omega⟩) (by first | assumption | exact hwf _ _ | exact dt_b32 _ | omega | exact ⟨by omega, by omega⟩ | decide | exact ⟨by simp (disch := omega) only [dt_up_s, dt_up_k, dt_up_n]; omega, by simp (disch := omega) only [dt_up_s, dt_up_k, dt_up_n]; omega⟩)) rfl rfl ⟨by decide, by decide⟩ (Nat.le_of_ble_eq_true rfl) ⟨by decide, by decide⟩ (dt_k3 ?_)
        refine dt_if_eq (tgt := 39) dX11_shortest_30 (by decide) (by first | assumption | exact hwf _ _ | exact dt_b32 _ | omega | exact ⟨by omega, by omega⟩ | decide | exact ⟨by simp (disch := omega) only [dt_up_s, dt_up_k, dt_up_n]; omega, by simp (disch := omega) only [dt_up_s, dt_up_k, dt_up_n]; omega⟩) (fun c4 => ?_) (fun c4 => ?_)
        · skip
          try simp only [dt_b0, dt_b1, Decidable.not_not, Classical.not_not] at c4
          refine dt_ldc dX11_shortest_39 pk_X11_74 ?_
          refine dt_iret dX11_shortest_41 rfl (by decide) (by decide) ?_
          have e : oShort A day m what k = (-1000001, A) := by
            unfold oShort
            rw [if_neg (fun q => by have := dt_nn.mpr q; omega), if_pos (by omega)]
          rw [e]
          exact ⟨rfl, rfl, hI, fun b _ _ => rfl⟩
        · skip
          try simp only [dt_b0, dt_b1, Decidable.not_not, Classical.not_not] at c4
          refine dt_iload dX11_shortest_33 rfl ?_
          refine dt_iconst dX11_shortest_35 ?_
          refine dt_cm_ge (tgt := 42) dX11_shortest_36 (by decide) (by first | assumption | exact hwf _ _ | exact dt_b32 _ | omega | exact ⟨by omega, by omega⟩ | decide | exact ⟨by simp (disch := omega) only [dt_up_s, dt_up_k, dt_up_n]; omega, by simp (disch := omega) only [dt_up_s, dt_up_k, dt_up_n]; omega⟩) (by first | assumption | exact hwf _ _ | exact dt_b32 _ | omega | exact ⟨by omega, by omega⟩ | decide | exact ⟨by simp (disch := omega) only [dt_up_s, dt_up_k, dt_up_n]; omega, by simp (disch := omega) only [dt_up_s, dt_up_k, dt_up_n]; omega⟩) (fun c5 => ?_) (fun c5 => ?_)
          · skip
            refine dt_aloadn dX11_shortest_42 rfl rfl ?_
            refine dt_getR dX11_shortest_43 pg_X11_44_11 rfl rfl ?_
            refine dt_aloadn dX11_shortest_46 rfl rfl ?_
            refine dt_getR dX11_shortest_47 pg_X11_26_11 rfl rfl ?_
            refine dt_iloadn dX11_shortest_50 rfl rfl ?_
            refine dt_xV dX11_shortest_51 pc_X11_172 dt_p7.1 (s_X6_tongueOf dt_p7 (by omega) (by omega) (by omega)) rfl rfl ⟨by decide, by decide⟩ rfl rfl (Nat.le_of_ble_eq_true rfl) ⟨by decide, by decide⟩ (dt_k3 ?_)
            rw [e5]
            obtain ⟨t, ht⟩ : ∃ t : Nat, day % ((sN A).1.length : Int) = t := ⟨(day % ((sN A).1.length : Int)).toNat, by have := Int.emod_nonneg day (b := ((sN A).1.length : Int)) (by omega); omega⟩
            have ht7 : t < (sN A).1.length := by have := Int.emod_lt_of_pos day (b := ((sN A).1.length : Int)) (by omega); omega
            rw [ht]
            obtain ⟨tg, htg⟩ := dt_lg ht7
            obtain ⟨m, rfl⟩ : ∃ z : Nat, m = z := ⟨m.toNat, by omega⟩
            refine dt_iloadn dX11_shortest_54 rfl rfl ?_
            refine dt_iloadn dX11_shortest_55 rfl rfl ?_
            refine dt_iconst dX11_shortest_56 ?_
            refine dt_cm_ne (tgt := 64) dX11_shortest_57 (by decide) (by first | assumption | exact hwf _ _ | exact dt_b32 _ | omega | exact ⟨by omega, by omega⟩ | decide | exact ⟨by simp (disch := omega) only [dt_up_s, dt_up_k, dt_up_n]; omega, by simp (disch := omega) only [dt_up_s, dt_up_k, dt_up_n]; omega⟩) (by first | assumption | exact hwf _ _ | exact dt_b32 _ | omega | exact ⟨by omega, by omega⟩ | decide | exact ⟨by simp (disch := omega) only [dt_up_s, dt_up_k, dt_up_n]; omega, by simp (disch := omega) only [dt_up_s, dt_up_k, dt_up_n]; omega⟩) (fun c6 => ?_) (fun c6 => ?_)
            · skip
              have hbb : (0 : Int) = dt_b (what = 1) := (dt_bF (by omega)).symm
              refine dt_iconst dX11_shortest_64 ?_
              refine dt_iload dX11_shortest_65 rfl ?_
              refine dt_xV dX11_shortest_67 pc_X11_185 rfl (s_X8_shortestOf hc hok htg (by omega) hbb (by omega) h_k) rfl rfl ⟨by decide, by decide⟩ rfl rfl (Nat.le_of_ble_eq_true rfl) ⟨by decide, by decide⟩ ?_
              intro vs shs σs hqs
              obtain ⟨rfl, hss, hfs⟩ := hqs
              obtain rfl := hss.symm
              refine dt_iret dX11_shortest_70 rfl (by decide) (by decide) ?_
              have e : oShort A day m what k = (xSht (xEd (what = 1) m tg) m k, A) := by
                unfold oShort
                rw [if_neg (fun q => by have := dt_nn.mpr q; omega), if_neg (by omega), ht, Int.toNat_natCast, Int.toNat_natCast, dt_gd htg]
              rw [e]
              exact ⟨rfl, rfl, hI.sy (fun b hb => hfs b (by omega) (by omega)), fun b h1 h2 => hfs b (by omega) (by omega)⟩
            · skip
              have hbb : (1 : Int) = dt_b (what = 1) := (dt_bT (by omega)).symm
              refine dt_iconst dX11_shortest_60 ?_
              refine dt_goto (tgt := 65) dX11_shortest_61 (by decide) ?_
              refine dt_iload dX11_shortest_65 rfl ?_
              refine dt_xV dX11_shortest_67 pc_X11_185 rfl (s_X8_shortestOf hc hok htg (by omega) hbb (by omega) h_k) rfl rfl ⟨by decide, by decide⟩ rfl rfl (Nat.le_of_ble_eq_true rfl) ⟨by decide, by decide⟩ ?_
              intro vs shs σs hqs
              obtain ⟨rfl, hss, hfs⟩ := hqs
              obtain rfl := hss.symm
              refine dt_iret dX11_shortest_70 rfl (by decide) (by decide) ?_
              have e : oShort A day m what k = (xSht (xEd (what = 1) m tg) m k, A) := by
                unfold oShort
                rw [if_neg (fun q => by have := dt_nn.mpr q; omega), if_neg (by omega), ht, Int.toNat_natCast, Int.toNat_natCast, dt_gd htg]
              rw [e]
              exact ⟨rfl, rfl, hI.sy (fun b hb => hfs b (by omega) (by omega)), fun b h1 h2 => hfs b (by omega) (by omega)⟩
          · skip
            refine dt_ldc dX11_shortest_39 pk_X11_74 ?_
            refine dt_iret dX11_shortest_41 rfl (by decide) (by decide) ?_
            have e : oShort A day m what k = (-1000001, A) := by
              unfold oShort
              rw [if_neg (fun q => by have := dt_nn.mpr q; omega), if_pos (by omega)]
            rw [e]
            exact ⟨rfl, rfl, hI, fun b _ _ => rfl⟩
  · skip
    try simp only [dt_b0, dt_b1, Decidable.not_not, Classical.not_not] at c1
    refine dt_ldc dX11_shortest_7 pk_X11_136 ?_
    refine dt_iret dX11_shortest_9 rfl (by decide) (by decide) ?_
    have e : oShort A day m what k = (-1000002, A) := by
      unfold oShort
      rw [if_pos (dt_nn.mp (by omega))]
    rw [e]
    exact ⟨rfl, rfl, hI, fun b _ _ => rfl⟩
