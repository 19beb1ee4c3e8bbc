
/-! the reference's reader: its token, its fault -/
def rTk (σ : dt_Mem) (T : List Nat) (t : Tok) : Prop := (σ 40 13 = rS t.1 ∧ σ 40 14 = t.2.1 ∧ σ 40 15 = t.2.2 ∧ σ 40 12 = t.2.2) ∧ ∃ q, q ≤ T.length ∧ t = tk T q
theorem rTk.ok {σ : dt_Mem} {T : List Nat} {t : Tok} (h : rTk σ T t) : t.2.1 ≤ t.2.2 ∧ t.2.2 ≤ T.length ∧ t.1 ≤ 4 ∧ (t.1 = 2 → t.2.2 - t.2.1 ≤ 3 ∧ ∀ k, t.2.1 ≤ k → k < t.2.2 → ∃ x, T[k]? = some x ∧ 48 ≤ x ∧ x ≤ 57) ∧ (t.1 = 1 → ∀ k, t.2.1 ≤ k → k < t.2.2 → ∃ x, T[k]? = some x ∧ 97 ≤ x ∧ x ≤ 122) := by
  obtain ⟨-, q, hq, rfl⟩ := h
  exact tk_ok hq
theorem rTk.n {σ : dt_Mem} {T : List Nat} {t : Tok} (h : rTk σ T t) (h2 : t.1 = 2) : nT T t < 1000 := by
  obtain ⟨k1, k2, k3, k4, k5⟩ := h.ok
  obtain ⟨k6, k7⟩ := k4 h2
  have h := nV_le T t.2.1 (t.2.2 - t.2.1) (fun k hk => by
    obtain ⟨y, hy, -, y2⟩ := k7 (t.2.1 + k) (by omega) (by omega)
    rw [dt_gd hy]; exact y2)
  exact Nat.lt_of_lt_of_le h (Nat.pow_le_pow_right (by decide) k6)
theorem rS_i {a : Nat} (h : a ≤ 4) : (rS a = 1 ↔ a = 0) ∧ (rS a = 2 ↔ a = 1) ∧ (rS a = 3 ↔ a = 2) ∧ (rS a = 4 ↔ a = 3) := by
  have key : ∀ a : Nat, a ≤ 4 → (rS a = 1 ↔ a = 0) ∧ (rS a = 2 ↔ a = 1) ∧ (rS a = 3 ↔ a = 2) ∧ (rS a = 4 ↔ a = 3) := by decide
  exact key a h
def rG (σ σ1 : dt_Mem) : Prop := ∀ b k, (b ≠ 40 ∨ k < 12 ∨ 17 < k) → σ1 b k = σ b k
theorem rG.refl (σ : dt_Mem) : rG σ σ := fun _ _ _ => rfl
theorem rG.tr {σ σ1 σ2 : dt_Mem} (h : rG σ σ1) (g : rG σ1 σ2) : rG σ σ2 := fun b k hb => (g b k hb).trans (h b k hb)
theorem rF.g {σ σ1 : dt_Mem} (h : rF σ σ1) : rG σ σ1 := fun b k hb => h b k (by omega)
theorem rG.L {σ σ1 : dt_Mem} {T : List Nat} (h : rG σ σ1) (hT : rL σ T) : rL σ1 T := ⟨(h 40 11 (by decide)).trans hT.1, hT.2.1, hT.2.2.1, fun i x hx => (h 46 i (Or.inl (by decide))).trans (hT.2.2.2 i x hx)⟩
def rZ (σ : dt_Mem) (T : List Nat) (s : pR Tok) : Prop := rL σ T ∧ ∃ t, rTk σ T t ∧ match s with
  | .ok u => u = t ∧ σ 40 16 = 0
  | .error e => σ 40 16 = e.1 ∧ 1 ≤ e.1 ∧ e.1 ≤ 3 ∧ σ 40 17 = e.2
theorem rZ.c {σ : dt_Mem} {T : List Nat} {s : pR Tok} (h : rZ σ T s) : (∃ t, s = .ok t ∧ rL σ T ∧ rTk σ T t ∧ σ 40 16 = 0) ∨ (∃ e t, s = .error e ∧ rL σ T ∧ rTk σ T t ∧ σ 40 16 = e.1 ∧ 1 ≤ e.1 ∧ e.1 ≤ 3 ∧ σ 40 17 = e.2) := by
  obtain ⟨hL, t, ht, hs⟩ := h
  cases s with
  | ok u =>
    obtain ⟨rfl, h0⟩ := hs
    exact Or.inl ⟨u, rfl, hL, ht, h0⟩
  | error e => exact Or.inr ⟨e, t, rfl, hL, ht, hs⟩
theorem rZ.o {σ : dt_Mem} {T : List Nat} {t : Tok} (h : rZ σ T (.ok t)) : rL σ T ∧ rTk σ T t ∧ σ 40 16 = 0 := by
  obtain ⟨hL, u, ht, rfl, h0⟩ := h
  exact ⟨hL, ht, h0⟩
theorem rZ.k {σ : dt_Mem} {T : List Nat} {t : Tok} (h1 : rL σ T) (h2 : rTk σ T t) (h3 : σ 40 16 = 0) : rZ σ T (.ok t) := ⟨h1, t, h2, rfl, h3⟩
def mBad (k : Int) (s : pR Tok) : pR Tok := match s with
  | .ok t => .error (k.toNat, t.2.1)
  | .error e => .error e
def mMust (T : List Nat) (b : Int) (s : pR Tok) : pR Tok := match s with
  | .ok t => if b = 0 then .error (1, t.2.1) else .ok (tk T t.2.2)
  | .error e => .error e
def nF (T : List Nat) (t : Tok) : Nat := if t.1 = 2 then nT T t else 0
def mNum (T : List Nat) (lo hi : Int) (s : pR Tok) : pR Tok := match s with
  | .ok t => if t.1 ≠ 2 then .error (1, t.2.1) else if lo ≤ (nT T t : Int) ∧ (nT T t : Int) ≤ hi then .ok (tk T t.2.2) else .error (2, t.2.1)
  | .error e => .error e
def mVal (T : List Nat) (s : pR Tok) : Nat := match s with
  | .ok t => nF T t
  | .error _ => 0
def mEnd (T : List Nat) (s : pR Tok) : pR Tok := match s with
  | .ok t => pSemi T t
  | .error e => .error e
def nmV (T : List Nat) (t : Tok) : Nat := if t.1 = 1 ∧ t.2.2 - t.2.1 < 8 then pkf (fun j => T.getD (t.2.1 + j) 0) (t.2.2 - t.2.1) else 0
def nmZ (T : List Nat) (s : pR Tok) : Nat := match s with
  | .ok t => nmV T t
  | .error _ => 0
theorem rZ.nb {σ : dt_Mem} {T : List Nat} {s : pR Tok} {k : Int} (h : rZ σ T (mBad k s)) : ¬ σ 40 16 = 0 := by
  obtain ⟨-, t, ht, hs⟩ := h
  cases s with
  | ok u => obtain ⟨h1, h2, -⟩ := hs; omega
  | error e => obtain ⟨h1, h2, -⟩ := hs; omega
theorem mMust_0 {T : List Nat} {s : pR Tok} : mMust T 0 s = mBad 1 s := by cases s <;> rfl
theorem dj_ce {x y : Int} : (dj_cmp x y = 0) = (x = y) := by
  unfold dj_cmp
  apply propext
  split
  · omega
  · split <;> omega
theorem mMust_n {T : List Nat} {t : Tok} : mMust T 0 (.ok t) = .error (1, t.2.1) := by
  unfold mMust
  exact if_pos rfl
theorem mMust_y {T : List Nat} {t : Tok} : mMust T 1 (.ok t) = .ok (tk T t.2.2) := by
  unfold mMust
  exact if_neg (by decide)
theorem mMust_e {T : List Nat} {b : Int} {e : Nat × Nat} : mMust T b (.error e) = .error e := rfl
theorem mMust_1 {T : List Nat} {b : Int} {t : Tok} (h : ¬ b = 0) : mMust T b (.ok t) = .ok (tk T t.2.2) := if_neg h
theorem rTk.of {σ1 : dt_Mem} {T : List Nat} {i : Nat} (h0 : i ≤ T.length) (h1 : σ1 40 13 = rS (tk T i).1) (h2 : σ1 40 14 = (tk T i).2.1) (h3 : σ1 40 15 = (tk T i).2.2) (h4 : σ1 40 12 = (tk T i).2.2) : rTk σ1 T (tk T i) := ⟨⟨h1, h2, h3, h4⟩, i, h0, rfl⟩
theorem dj_lshl8 {v : Nat} (h : v < 36028797018963968) : dj_lshl (v : Int) 8 = ((v * 256 : Nat) : Int) := by
  unfold dj_lshl
  rw [dj_ofL, dj_sh8, lN_shl8]
  exact pk_lT (by omega)
theorem dj_lor_nn {a b : Nat} (h : (a ||| b) < 9223372036854775808) : dj_lor (a : Int) (b : Int) = ((a ||| b : Nat) : Int) := by
  unfold dj_lor
  rw [dj_ofL, dj_ofL, fb_orL]
  exact pk_lT h
theorem pkf_c {f g : Nat → Nat} : ∀ n, (∀ j, j < n → f j = g j) → pkf f n = pkf g n
  | 0, _ => rfl
  | n + 1, h => by
    simp only [pkf]
    rw [pkf_c n (fun j hj => h j (by omega)), h n (by omega)]
theorem nmV_lt {T : List Nat} (hT : ∀ x ∈ T, x < 256) (t : Tok) : nmV T t < 72057594037927936 := by
  unfold nmV
  split
  · rename_i h
    have a := pkf_lt (fun j => T.getD (t.2.1 + j) 0) (t.2.2 - t.2.1) (fun j _ => by
      show T.getD (t.2.1 + j) 0 < 256
      cases e : T[t.2.1 + j]? with
      | none => rw [List.getD_eq_getElem?_getD, e]; decide
      | some x => rw [dt_gd e]; exact hT x (List.mem_of_getElem? e))
    have b : 256 ^ (t.2.2 - t.2.1) ≤ 256 ^ 7 := Nat.pow_le_pow_right (by decide) (by omega)
    have c : (256 : Nat) ^ 7 = 72057594037927936 := by decide
    omega
  · decide
def nmC : List Nat := [128021942465893, 2003792484, 482854660462, 427071729268, 1818586740, 110429873532005, 1868657768, 123581014175598]
theorem nmC_k : ∀ i, i < 8 → pkf (fun j => (dt_ch i j).toNat) (dt_ln.getD i 0) = nmC.getD i 0 ∧ 0 < nmC.getD i 0 := by decide +kernel
theorem nmV_i {T : List Nat} {t : Tok} (hk : t.2.1 ≤ t.2.2 ∧ (t.1 = 1 → ∀ k, t.2.1 ≤ k → k < t.2.2 → ∃ x, T[k]? = some x ∧ 97 ≤ x ∧ x ≤ 122)) {i : Nat} (hi : i < 8) : nmV T t = nmC.getD i 0 ↔ isN T t i = true := by
  obtain ⟨c1, c2⟩ := nmC_k i hi
  obtain ⟨-, l2, l3⟩ := dt_ln_k i hi
  rw [isN_i, ← c1]
  rw [← c1] at c2
  constructor
  · intro h
    by_cases g : t.1 = 1 ∧ t.2.2 - t.2.1 < 8
    · unfold nmV at h
      rw [if_pos g] at h
      obtain ⟨e1, e2⟩ := pkf_u _ _ _ _ (fun j hj => by
        obtain ⟨x, hx, x1, x2⟩ := hk.2 g.1 (t.2.1 + j) (by omega) (by omega)
        show 1 ≤ T.getD (t.2.1 + j) 0 ∧ T.getD (t.2.1 + j) 0 < 256
        rw [dt_gd hx]
        omega) (fun j hj => by
        obtain ⟨-, -, x1, x2⟩ := dt_ch_k i hi j hj
        show 1 ≤ (dt_ch i j).toNat ∧ (dt_ch i j).toNat < 256
        omega) h
      refine ⟨g.1, e1, fun j hj => ?_⟩
      have e3 : T.getD (t.2.1 + j) 0 = (dt_ch i j).toNat := e2 j (by omega)
      obtain ⟨-, -, x1, x2⟩ := dt_ch_k i hi j hj
      rw [e3]
      omega
    · unfold nmV at h
      rw [if_neg g] at h
      omega
  · rintro ⟨g1, g2, g3⟩
    unfold nmV
    rw [if_pos ⟨g1, by omega⟩, g2]
    refine pkf_c _ (fun j hj => ?_)
    show T.getD (t.2.1 + j) 0 = (dt_ch i j).toNat
    have := g3 j hj
    omega
def sOf (x : Int) : Int := if x = 482854660462 then 1 else if x = 427071729268 then 2 else if x = 1818586740 then 3 else if x = 110429873532005 then 4 else if x = 1868657768 then 5 else -1000000
theorem sOf_k {T : List Nat} {t : Tok} (hk : t.2.1 ≤ t.2.2 ∧ (t.1 = 1 → ∀ k, t.2.1 ≤ k → k < t.2.2 → ∃ x, T[k]? = some x ∧ 97 ≤ x ∧ x ≤ 122)) : sOf ((nmV T t : Nat) : Int) = if kTold T t = 0 then -1000000 else ((kTold T t : Nat) : Int) := by
  have key : ∀ i : Nat, i < 8 → (((nmV T t : Nat) : Int) = ((nmC.getD i 0 : Nat) : Int) ↔ isN T t i = true) := fun i hi => by rw [← nmV_i hk hi]; omega
  have k2 : ((nmV T t : Nat) : Int) = 482854660462 ↔ isN T t 2 = true := key 2 (by decide)
  have k3 : ((nmV T t : Nat) : Int) = 427071729268 ↔ isN T t 3 = true := key 3 (by decide)
  have k4 : ((nmV T t : Nat) : Int) = 1818586740 ↔ isN T t 4 = true := key 4 (by decide)
  have k5 : ((nmV T t : Nat) : Int) = 110429873532005 ↔ isN T t 5 = true := key 5 (by decide)
  have k6 : ((nmV T t : Nat) : Int) = 1868657768 ↔ isN T t 6 = true := key 6 (by decide)
  unfold sOf kTold
  by_cases h2 : isN T t 2 = true
  · rw [if_pos (k2.mpr h2), if_pos h2]; rfl
  rw [if_neg (fun q => h2 (k2.mp q)), if_neg h2]
  by_cases h3 : isN T t 3 = true
  · rw [if_pos (k3.mpr h3), if_pos h3]; rfl
  rw [if_neg (fun q => h3 (k3.mp q)), if_neg h3]
  by_cases h4 : isN T t 4 = true
  · rw [if_pos (k4.mpr h4), if_pos h4]; rfl
  rw [if_neg (fun q => h4 (k4.mp q)), if_neg h4]
  by_cases h5 : isN T t 5 = true
  · rw [if_pos (k5.mpr h5), if_pos h5]; rfl
  rw [if_neg (fun q => h5 (k5.mp q)), if_neg h5]
  by_cases h6 : isN T t 6 = true
  · rw [if_pos (k6.mpr h6), if_pos h6]; rfl
  rw [if_neg (fun q => h6 (k6.mp q)), if_neg h6]
  rfl
theorem rTk.y {σ : dt_Mem} {T : List Nat} {t : Tok} (h : rTk σ T t) : t.2.1 ≤ t.2.2 ∧ (t.1 = 1 → ∀ k, t.2.1 ≤ k → k < t.2.2 → ∃ x, T[k]? = some x ∧ 97 ≤ x ∧ x ≤ 122) := ⟨h.ok.1, h.ok.2.2.2.2⟩
theorem s_X12_bad {ex : List dt_Shp} {σ : dt_Mem} {T : List Nat} {s : pR Tok} {k : Int} (hZ : rZ σ T s) (hk : 1 ≤ k ∧ k ≤ 3) : dt_Sp mX12_bad 0 0 0 [dt_R 40, dt_I k] (dt_SH ++ ex) σ (fun v sh2 σ2 => v = none ∧ sh2 = dt_SH ++ ex ∧ rG σ σ2 ∧ rZ σ2 T (mBad k s)) := by
  refine dt_Sp_of (by decide) (Nat.le_of_ble_eq_true rfl) ?_
  refine dt_wfV fun hwf => ?_
  show dt_V _ _ _ 0 0 0 [some (dt_R 40), some (dt_I k)] [] _ _
  refine dt_aloadn dX12_bad_0 rfl rfl ?_
  refine dt_getI dX12_bad_1 pg_X12_111_12 rfl rfl ?_
  refine dt_if_ne (tgt := 20) dX12_bad_4 (by decide) (by first | assumption | exact hwf _ _ | exact dt_b32 _ | omega | exact ⟨by omega, by omega⟩ | decide | exact ⟨by simp (disch := omega) only [dt_up_s, dt_up_k, dt_up_n]; omega, by simp (disch := omega) only [dt_up_s, dt_up_k, dt_up_n]; omega⟩) (fun c1 => ?_) (fun c1 => ?_)
  · skip
    obtain ⟨t, rfl, hL, ht, h0⟩ | ⟨e, t, rfl, hL, ht, h1, h2, h3, h4⟩ := hZ.c
    · omega
    refine dt_vret dX12_bad_20 rfl (by decide) (by decide) ?_
    exact ⟨rfl, rfl, rG.refl σ, hZ⟩
  · skip
    obtain ⟨t, rfl, hL, ht, h0⟩ | ⟨e, t, rfl, hL, ht, h1, h2, h3, h4⟩ := hZ.c
    rotate_left
    · omega
    refine dt_aloadn dX12_bad_7 rfl rfl ?_
    refine dt_iloadn dX12_bad_8 rfl rfl ?_
    refine dt_wfV fun hwf => ?_
    refine dt_putI dX12_bad_9 pw_X12_111_12 rfl rfl (by first | assumption | exact hwf _ _ | exact dt_b32 _ | omega | exact ⟨by omega, by omega⟩ | decide | exact ⟨by simp (disch := omega) only [dt_up_s, dt_up_k, dt_up_n]; omega, by simp (disch := omega) only [dt_up_s, dt_up_k, dt_up_n]; omega⟩) ?_
    refine dt_aloadn dX12_bad_12 rfl rfl ?_
    refine dt_aloadn dX12_bad_13 rfl rfl ?_
    refine dt_getI dX12_bad_14 pg_X12_96_12 rfl rfl ?_
    refine dt_wfV fun hwf => ?_
    refine dt_putI dX12_bad_17 pw_X12_117_12 rfl rfl (by first | assumption | exact hwf _ _ | exact dt_b32 _ | omega | exact ⟨by omega, by omega⟩ | decide | exact ⟨by simp (disch := omega) only [dt_up_s, dt_up_k, dt_up_n]; omega, by simp (disch := omega) only [dt_up_s, dt_up_k, dt_up_n]; omega⟩) ?_
    refine dt_vret dX12_bad_20 rfl (by decide) (by decide) ?_
    obtain ⟨⟨t1, t2, t3, t4⟩, tq⟩ := ht
    refine ⟨rfl, rfl, fun b k hb => ?_, ⟨?_, hL.2.1, hL.2.2.1, ?_⟩, t, ⟨⟨?_, ?_, ?_, ?_⟩, tq⟩, ?_, ?_, ?_, ?_⟩
    · simp (disch := omega) only [dt_up_ne]
    · simp (disch := omega) only [dt_up_k]; exact hL.1
    · intro i x hx; simp (disch := omega) only [dt_up_n]; exact hL.2.2.2 i x hx
    · simp (disch := omega) only [dt_up_k]; exact t1
    · simp (disch := omega) only [dt_up_k]; exact t2
    · simp (disch := omega) only [dt_up_k]; exact t3
    · simp (disch := omega) only [dt_up_k]; exact t4
    · simp (disch := omega) only [dt_up_k, dt_up_s]; show k = ((k.toNat : Nat) : Int); omega
    · show 1 ≤ k.toNat; omega
    · show k.toNat ≤ 3; omega
    · simp (disch := omega) only [dt_up_k, dt_up_s]; exact t2
theorem s_X12_must {ex : List dt_Shp} {σ : dt_Mem} {T : List Nat} {s : pR Tok} {b : Int} (hZ : rZ σ T s) (hb : b = 0 ∨ b = 1) : dt_Sp mX12_must 2 0 0 [dt_R 40, dt_I b] (dt_SH ++ ex) σ (fun v sh2 σ2 => v = none ∧ sh2 = dt_SH ++ ex ∧ rG σ σ2 ∧ rZ σ2 T (mMust T b s)) := by
  refine dt_Sp_of (by decide) (Nat.le_of_ble_eq_true rfl) ?_
  refine dt_wfV fun hwf => ?_
  show dt_V _ _ _ 0 0 0 [some (dt_R 40), some (dt_I b)] [] _ _
  refine dt_iloadn dX12_must_0 rfl rfl ?_
  refine dt_if_ne (tgt := 9) dX12_must_1 (by decide) (by first | assumption | exact hwf _ _ | exact dt_b32 _ | omega | exact ⟨by omega, by omega⟩ | decide | exact ⟨by simp (disch := omega) only [dt_up_s, dt_up_k, dt_up_n]; omega, by simp (disch := omega) only [dt_up_s, dt_up_k, dt_up_n]; omega⟩) (fun c1 => ?_) (fun c1 => ?_)
  · skip
    refine dt_wfV fun hwf => ?_
    refine dt_aloadn dX12_must_9 rfl rfl ?_
    refine dt_getI dX12_must_10 pg_X12_111_12 rfl rfl ?_
    refine dt_if_ne (tgt := 20) dX12_must_13 (by decide) (by first | assumption | exact hwf _ _ | exact dt_b32 _ | omega | exact ⟨by omega, by omega⟩ | decide | exact ⟨by simp (disch := omega) only [dt_up_s, dt_up_k, dt_up_n]; omega, by simp (disch := omega) only [dt_up_s, dt_up_k, dt_up_n]; omega⟩) (fun c2 => ?_) (fun c2 => ?_)
    · skip
      obtain ⟨t, rfl, hL, ht, h0⟩ | ⟨e, t, rfl, hL, ht, h1, h2, h3, h4⟩ := hZ.c
      · omega
      refine dt_vret dX12_must_20 rfl (by decide) (by decide) ?_
      exact ⟨rfl, rfl, rG.refl σ, hZ⟩
    · skip
      obtain ⟨t, rfl, hL, ht, h0⟩ | ⟨e, t, rfl, hL, ht, h1, h2, h3, h4⟩ := hZ.c
      rotate_left
      · omega
      refine dt_aloadn dX12_must_16 rfl rfl ?_
      refine dt_xV dX12_must_17 pc_X12_114 rfl (s_X12_next hL ht.1.2.2.2 ht.ok.2.1) rfl rfl ⟨by decide, by decide⟩ rfl rfl (Nat.le_of_ble_eq_true rfl) ⟨by decide, by decide⟩ ?_
      intro vn shn σn hqn
      obtain ⟨rfl, hsn, hfn, han, hbn, hcn, hdn⟩ := hqn
      obtain rfl := hsn.symm
      refine dt_vret dX12_must_20 rfl (by decide) (by decide) ?_
      rw [mMust_1 (by omega)]
      exact ⟨rfl, rfl, hfn.g, rZ.k (hfn.L hL) (rTk.of ht.ok.2.1 han hbn hcn hdn) ((hfn 40 16 (by decide)).trans h0)⟩
  · skip
    have hb0 : b = 0 := by omega
    refine dt_aloadn dX12_must_4 rfl rfl ?_
    refine dt_iconst dX12_must_5 ?_
    refine dt_xV dX12_must_6 pc_X12_120 rfl (s_X12_bad hZ (by decide)) rfl rfl ⟨by decide, by decide⟩ rfl rfl (Nat.le_of_ble_eq_true rfl) ⟨by decide, by decide⟩ ?_
    intro vb shb σb hqb
    obtain ⟨rfl, hsb, hfb, hZb⟩ := hqb
    obtain rfl := hsb.symm
    refine dt_wfV fun hwf => ?_
    refine dt_aloadn dX12_must_9 rfl rfl ?_
    refine dt_getI dX12_must_10 pg_X12_111_12 rfl rfl ?_
    refine dt_if_ne (tgt := 20) dX12_must_13 (by decide) (by first | assumption | exact hwf _ _ | exact dt_b32 _ | omega | exact ⟨by omega, by omega⟩ | decide | exact ⟨by simp (disch := omega) only [dt_up_s, dt_up_k, dt_up_n]; omega, by simp (disch := omega) only [dt_up_s, dt_up_k, dt_up_n]; omega⟩) (fun c3 => ?_) (fun c3 => ?_)
    · skip
      refine dt_vret dX12_must_20 rfl (by decide) (by decide) ?_
      rw [hb0, mMust_0]
      exact ⟨rfl, rfl, hfb, hZb⟩
    · skip
      exact absurd (by assumption) hZb.nb
theorem s_X12_begin {ex : List dt_Shp} {σ : dt_Mem} {T : List Nat} (hT : rTape σ T) (hl : T.length ≤ 500) (hx8 : ∀ x ∈ T, x < 256) : dt_Sp mX12_begin 2 0 0 [dt_R 40] (dt_SH ++ ex) σ (fun v sh2 σ2 => v = none ∧ sh2 = dt_SH ++ ex ∧ (∀ b k, (b ≠ 40 ∨ k < 9 ∨ k = 10 ∨ 17 < k) → σ2 b k = σ b k) ∧ σ2 40 9 = 0 ∧ rZ σ2 T (.ok (tk T 0))) := by
  refine dt_Sp_of (by decide) (Nat.le_of_ble_eq_true rfl) ?_
  refine dt_wfV fun hwf => ?_
  show dt_V _ _ _ 0 0 0 [some (dt_R 40)] [] _ _
  refine dt_aloadn dX12_begin_0 rfl rfl ?_
  refine dt_aloadn dX12_begin_1 rfl rfl ?_
  refine dt_getI dX12_begin_2 pg_X12_80_12 rfl rfl ?_
  refine dt_wfV fun hwf => ?_
  refine dt_putI dX12_begin_5 pw_X12_86_12 rfl rfl (by first | assumption | exact hwf _ _ | exact dt_b32 _ | omega | exact ⟨by omega, by omega⟩ | decide | exact ⟨by simp (disch := omega) only [dt_up_s, dt_up_k, dt_up_n]; omega, by simp (disch := omega) only [dt_up_s, dt_up_k, dt_up_n]; omega⟩) ?_
  refine dt_aloadn dX12_begin_8 rfl rfl ?_
  refine dt_iconst dX12_begin_9 ?_
  refine dt_wfV fun hwf => ?_
  refine dt_putI dX12_begin_10 pw_X12_80_12 rfl rfl (by first | assumption | exact hwf _ _ | exact dt_b32 _ | omega | exact ⟨by omega, by omega⟩ | decide | exact ⟨by simp (disch := omega) only [dt_up_s, dt_up_k, dt_up_n]; omega, by simp (disch := omega) only [dt_up_s, dt_up_k, dt_up_n]; omega⟩) ?_
  refine dt_aloadn dX12_begin_13 rfl rfl ?_
  refine dt_iconst dX12_begin_14 ?_
  refine dt_wfV fun hwf => ?_
  refine dt_putI dX12_begin_15 pw_X12_90_12 rfl rfl (by first | assumption | exact hwf _ _ | exact dt_b32 _ | omega | exact ⟨by omega, by omega⟩ | decide | exact ⟨by simp (disch := omega) only [dt_up_s, dt_up_k, dt_up_n]; omega, by simp (disch := omega) only [dt_up_s, dt_up_k, dt_up_n]; omega⟩) ?_
  refine dt_aloadn dX12_begin_18 rfl rfl ?_
  refine dt_iconst dX12_begin_19 ?_
  refine dt_wfV fun hwf => ?_
  refine dt_putI dX12_begin_20 pw_X12_111_12 rfl rfl (by first | assumption | exact hwf _ _ | exact dt_b32 _ | omega | exact ⟨by omega, by omega⟩ | decide | exact ⟨by simp (disch := omega) only [dt_up_s, dt_up_k, dt_up_n]; omega, by simp (disch := omega) only [dt_up_s, dt_up_k, dt_up_n]; omega⟩) ?_
  obtain ⟨σb, eb⟩ : ∃ z, z = dt_up (dt_up (dt_up (dt_up σ 40 11 (σ 40 9)) 40 9 0) 40 12 0) 40 16 0 := ⟨_, rfl⟩
  rw [← eb]
  have bL : rL σb T := by
    refine ⟨?_, hl, hx8, fun i x hx => ?_⟩
    · rw [eb]; simp (disch := omega) only [dt_up_k, dt_up_s]; exact hT.1
    · rw [eb]; simp (disch := omega) only [dt_up_n]; exact hT.2 i x hx
  have b9 : σb 40 9 = 0 := by rw [eb]; simp (disch := omega) only [dt_up_k, dt_up_s]
  have b12 : σb 40 12 = ((0 : Nat) : Int) := by rw [eb]; simp (disch := omega) only [dt_up_k, dt_up_s]; rfl
  have b16 : σb 40 16 = 0 := by rw [eb]; simp (disch := omega) only [dt_up_k, dt_up_s]
  have bf : ∀ b k, (b ≠ 40 ∨ k < 9 ∨ k = 10 ∨ 17 < k) → σb b k = σ b k := fun b k hb => by rw [eb]; simp (disch := omega) only [dt_up_ne]
  clear eb
  refine dt_aloadn dX12_begin_23 rfl rfl ?_
  refine dt_xV dX12_begin_24 pc_X12_114 rfl (s_X12_next bL b12 (Nat.zero_le _)) rfl rfl ⟨by decide, by decide⟩ rfl rfl (Nat.le_of_ble_eq_true rfl) ⟨by decide, by decide⟩ ?_
  intro vn shn σn hqn
  obtain ⟨rfl, hsn, hfn, han, hbn, hcn, hdn⟩ := hqn
  obtain rfl := hsn.symm
  refine dt_vret dX12_begin_27 rfl (by decide) (by decide) ?_
  exact ⟨rfl, rfl, fun b k hb => (hfn b k (by omega)).trans (bf b k hb), (hfn 40 9 (by decide)).trans b9, rZ.k (hfn.L bL) (rTk.of (Nat.zero_le _) han hbn hcn hdn) ((hfn 40 16 (by decide)).trans b16)⟩
theorem s_X12_name {ex : List dt_Shp} {σ : dt_Mem} {T : List Nat} {s : pR Tok} (hZ : rZ σ T s) : dt_Sp mX12_name 0 0 0 [dt_R 40] (dt_SH ++ ex) σ (fun v sh2 σ2 => v = some (dt_L ((nmZ T s : Nat) : Int)) ∧ sh2 = dt_SH ++ ex ∧ σ2 = σ) := by
  refine dt_Sp_of (by decide) (Nat.le_of_ble_eq_true rfl) ?_
  refine dt_wfV fun hwf => ?_
  obtain ⟨hL, t, ht, hs⟩ := id hZ
  obtain ⟨k1, k2, k3, k4, k5⟩ := ht.ok
  obtain ⟨⟨t1, t2, t3, t4⟩, -⟩ := id ht
  obtain ⟨r1, r2, r3, r4⟩ := rS_i k3
  have e1 := hL.1
  have e2 := hL.2.1
  show dt_V _ _ _ 0 0 0 [some (dt_R 40), none, none, none] [] _ _
  refine dt_lconst (x := 0) dX12_name_0 (by decide) ?_
  refine dt_lstoren dX12_name_1 rfl (by decide) rfl ?_
  dsimp only [List.set]
  refine dt_aloadn dX12_name_2 rfl rfl ?_
  refine dt_getI dX12_name_3 pg_X12_96_12 rfl rfl ?_
  refine dt_istoren dX12_name_6 rfl (by decide) rfl ?_
  dsimp only [List.set]
  have lp7 : ∀ (fu : Nat) (q : Nat), (t.2.2 : Int) - t.2.1 - q < (fu : Int) → (t.2.1 + q ≤ t.2.2) → (q = 0 ∨ (t.1 = 1 ∧ t.2.2 - t.2.1 < 8)) →  dt_V mX12_name (dt_rm 0 0 0) (dt_MC (fun v sh2 σ2 => v = some (dt_L ((nmZ T s : Nat) : Int)) ∧ sh2 = dt_SH ++ ex ∧ σ2 = σ) 0 0) 0 0 7 [some (dt_R 40), some (dt_L ((pkf (fun j => T.getD (t.2.1 + j) 0) q : Nat) : Int)), none, some (dt_I ((t.2.1 + q : Nat) : Int))] [] (dt_SH ++ ex) σ := by
    intro fu
    induction fu with
    | zero =>
      intro q hm hq hn
      exfalso
      omega
    | succ fu ih =>
      intro q hm hq hn
      refine dt_wfV fun hwf => ?_
      refine dt_iloadn dX12_name_7 rfl rfl ?_
      refine dt_aloadn dX12_name_8 rfl rfl ?_
      refine dt_getI dX12_name_9 pg_X12_108_12 rfl rfl ?_
      refine dt_cm_ge (tgt := 56) dX12_name_12 (by decide) (by first | assumption | exact hwf _ _ | exact dt_b32 _ | omega | exact ⟨by omega, by omega⟩ | decide | exact ⟨by simp (disch := omega) only [dt_up_s, dt_up_k, dt_up_n]; omega, by simp (disch := omega) only [dt_up_s, dt_up_k, dt_up_n]; omega⟩) (by first | assumption | exact hwf _ _ | exact dt_b32 _ | omega | exact ⟨by omega, by omega⟩ | decide | exact ⟨by simp (disch := omega) only [dt_up_s, dt_up_k, dt_up_n]; omega, by simp (disch := omega) only [dt_up_s, dt_up_k, dt_up_n]; omega⟩) (fun c1 => ?_) (fun c1 => ?_)
      · skip
        have hx1 : t.2.2 ≤ t.2.1 + q := by omega
        refine dt_aloadn dX12_name_56 rfl rfl ?_
        refine dt_getI dX12_name_57 pg_X12_111_12 rfl rfl ?_
        refine dt_if_ne (tgt := 67) dX12_name_60 (by decide) (by first | assumption | exact hwf _ _ | exact dt_b32 _ | omega | exact ⟨by omega, by omega⟩ | decide | exact ⟨by simp (disch := omega) only [dt_up_s, dt_up_k, dt_up_n]; omega, by simp (disch := omega) only [dt_up_s, dt_up_k, dt_up_n]; omega⟩) (fun c2 => ?_) (fun c2 => ?_)
        · skip
          refine dt_lconst (x := 0) dX12_name_67 (by decide) ?_
          refine dt_lret dX12_name_68 rfl (by decide) (by decide) ?_
          cases s with
          | ok u => obtain ⟨-, z⟩ := hs; exact absurd z (by assumption)
          | error e => exact ⟨rfl, rfl, rfl⟩
        · skip
          refine dt_lloadn dX12_name_63 rfl rfl ?_
          refine dt_goto (tgt := 68) dX12_name_64 (by decide) ?_
          refine dt_lret dX12_name_68 rfl (by decide) (by decide) ?_
          have e : pkf (fun j => T.getD (t.2.1 + j) 0) q = nmV T t := by
            rcases hn with h0 | ⟨g1, g2⟩
            · subst h0
              have e0 : t.2.2 - t.2.1 = 0 := by omega
              unfold nmV
              rw [e0]
              split <;> rfl
            · unfold nmV
              rw [if_pos ⟨g1, g2⟩, show t.2.2 - t.2.1 = q by omega]
          cases s with
          | error e => obtain ⟨z1, z2, -⟩ := hs; omega
          | ok u =>
            obtain ⟨hu, z⟩ := hs
            rw [e, ← hu]
            exact ⟨rfl, rfl, rfl⟩
      · skip
        refine dt_aloadn dX12_name_15 rfl rfl ?_
        refine dt_getI dX12_name_16 pg_X12_99_12 rfl rfl ?_
        refine dt_iconst dX12_name_19 ?_
        refine dt_cm_ne (tgt := 56) dX12_name_20 (by decide) (by first | assumption | exact hwf _ _ | exact dt_b32 _ | omega | exact ⟨by omega, by omega⟩ | decide | exact ⟨by simp (disch := omega) only [dt_up_s, dt_up_k, dt_up_n]; omega, by simp (disch := omega) only [dt_up_s, dt_up_k, dt_up_n]; omega⟩) (by first | assumption | exact hwf _ _ | exact dt_b32 _ | omega | exact ⟨by omega, by omega⟩ | decide | exact ⟨by simp (disch := omega) only [dt_up_s, dt_up_k, dt_up_n]; omega, by simp (disch := omega) only [dt_up_s, dt_up_k, dt_up_n]; omega⟩) (fun c3 => ?_) (fun c3 => ?_)
        · skip
          have hx2 : ¬ t.1 = 1 := fun z => by have := r2.mpr z; omega
          refine dt_aloadn dX12_name_56 rfl rfl ?_
          refine dt_getI dX12_name_57 pg_X12_111_12 rfl rfl ?_
          refine dt_if_ne (tgt := 67) dX12_name_60 (by decide) (by first | assumption | exact hwf _ _ | exact dt_b32 _ | omega | exact ⟨by omega, by omega⟩ | decide | exact ⟨by simp (disch := omega) only [dt_up_s, dt_up_k, dt_up_n]; omega, by simp (disch := omega) only [dt_up_s, dt_up_k, dt_up_n]; omega⟩) (fun c4 => ?_) (fun c4 => ?_)
          · skip
            refine dt_lconst (x := 0) dX12_name_67 (by decide) ?_
            refine dt_lret dX12_name_68 rfl (by decide) (by decide) ?_
            cases s with
            | ok u => obtain ⟨-, z⟩ := hs; exact absurd z (by assumption)
            | error e => exact ⟨rfl, rfl, rfl⟩
          · skip
            refine dt_lloadn dX12_name_63 rfl rfl ?_
            refine dt_goto (tgt := 68) dX12_name_64 (by decide) ?_
            refine dt_lret dX12_name_68 rfl (by decide) (by decide) ?_
            have e : pkf (fun j => T.getD (t.2.1 + j) 0) q = nmV T t := by
              obtain rfl : q = 0 := by
                rcases hn with h0 | ⟨g1, g2⟩
                · exact h0
                · exact absurd g1 hx2
              exact (if_neg (fun z => hx2 z.1)).symm
            cases s with
            | error e => obtain ⟨z1, z2, -⟩ := hs; omega
            | ok u =>
              obtain ⟨hu, z⟩ := hs
              rw [e, ← hu]
              exact ⟨rfl, rfl, rfl⟩
        · skip
          have h1t : t.1 = 1 := r2.mp (by omega)
          refine dt_aloadn dX12_name_23 rfl rfl ?_
          refine dt_getI dX12_name_24 pg_X12_108_12 rfl rfl ?_
          refine dt_aloadn dX12_name_27 rfl rfl ?_
          refine dt_getI dX12_name_28 pg_X12_96_12 rfl rfl ?_
          refine dt_isub dX12_name_31 ?_
          refine dt_bipush dX12_name_32 (by decide) ?_
          refine dt_cm_ge (tgt := 56) dX12_name_34 (by decide) (by first | assumption | exact hwf _ _ | exact dt_b32 _ | omega | exact ⟨by omega, by omega⟩ | decide | exact ⟨by simp (disch := omega) only [dt_up_s, dt_up_k, dt_up_n]; omega, by simp (disch := omega) only [dt_up_s, dt_up_k, dt_up_n]; omega⟩) (by first | assumption | exact hwf _ _ | exact dt_b32 _ | omega | exact ⟨by omega, by omega⟩ | decide | exact ⟨by simp (disch := omega) only [dt_up_s, dt_up_k, dt_up_n]; omega, by simp (disch := omega) only [dt_up_s, dt_up_k, dt_up_n]; omega⟩) (fun c5 => ?_) (fun c5 => ?_)
          · skip
            have hx3 : ¬ t.2.2 - t.2.1 < 8 := by omega
            refine dt_aloadn dX12_name_56 rfl rfl ?_
            refine dt_getI dX12_name_57 pg_X12_111_12 rfl rfl ?_
            refine dt_if_ne (tgt := 67) dX12_name_60 (by decide) (by first | assumption | exact hwf _ _ | exact dt_b32 _ | omega | exact ⟨by omega, by omega⟩ | decide | exact ⟨by simp (disch := omega) only [dt_up_s, dt_up_k, dt_up_n]; omega, by simp (disch := omega) only [dt_up_s, dt_up_k, dt_up_n]; omega⟩) (fun c6 => ?_) (fun c6 => ?_)
            · skip
              refine dt_lconst (x := 0) dX12_name_67 (by decide) ?_
              refine dt_lret dX12_name_68 rfl (by decide) (by decide) ?_
              cases s with
              | ok u => obtain ⟨-, z⟩ := hs; exact absurd z (by assumption)
              | error e => exact ⟨rfl, rfl, rfl⟩
            · skip
              refine dt_lloadn dX12_name_63 rfl rfl ?_
              refine dt_goto (tgt := 68) dX12_name_64 (by decide) ?_
              refine dt_lret dX12_name_68 rfl (by decide) (by decide) ?_
              have e : pkf (fun j => T.getD (t.2.1 + j) 0) q = nmV T t := by
                obtain rfl : q = 0 := by
                  rcases hn with h0 | ⟨g1, g2⟩
                  · exact h0
                  · exact absurd g2 hx3
                exact (if_neg (fun z => hx3 z.2)).symm
              cases s with
              | error e => obtain ⟨z1, z2, -⟩ := hs; omega
              | ok u =>
                obtain ⟨hu, z⟩ := hs
                rw [e, ← hu]
                exact ⟨rfl, rfl, rfl⟩
          · skip
            have h8t : t.2.2 - t.2.1 < 8 := by omega
            obtain ⟨x, hx, x1, x2⟩ := k5 h1t (t.2.1 + q) (by omega) (by omega)
            have hxm := hL.2.2.2 _ x hx
            have hvb : pkf (fun j => T.getD (t.2.1 + j) 0) q < 281474976710656 := by
              have a := pkf_lt (fun j => T.getD (t.2.1 + j) 0) q (fun j hj => by
                obtain ⟨y, hy, y1, y2⟩ := k5 h1t (t.2.1 + j) (by omega) (by omega)
                show T.getD (t.2.1 + j) 0 < 256
                rw [dt_gd hy]; omega)
              have b : 256 ^ q ≤ 256 ^ 6 := Nat.pow_le_pow_right (by decide) (by omega)
              have c : (256 : Nat) ^ 6 = 281474976710656 := by decide
              omega
            have hsv : pkf (fun j => T.getD (t.2.1 + j) 0) q * 256 ||| x = pkf (fun j => T.getD (t.2.1 + j) 0) (q + 1) := by
              rw [or8 _ x (by omega)]
              show _ = pkf (fun j => T.getD (t.2.1 + j) 0) q * 256 + T.getD (t.2.1 + q) 0
              rw [dt_gd hx]
            have hsl : pkf (fun j => T.getD (t.2.1 + j) 0) (q + 1) < 9223372036854775808 := by
              rw [← hsv, or8 _ x (by omega)]; omega
            refine dt_lloadn dX12_name_37 rfl rfl ?_
            refine dt_bipush dX12_name_38 (by decide) ?_
            refine dt_lshl dX12_name_40 ?_
            rw [dj_lshl8 (by omega)]
            refine dt_aloadn dX12_name_41 rfl rfl ?_
            refine dt_getR dX12_name_42 pg_X12_25_12 rfl rfl ?_
            refine dt_iloadn dX12_name_45 rfl rfl ?_
            refine dt_iald dX12_name_46 rfl (by first | omega | (simp (disch := omega) only [dt_up_s, dt_up_k, dt_up_n]; omega)) (by first | omega | (simp (disch := omega) only [dt_up_s, dt_up_k, dt_up_n]; omega)) (by decide) ?_
            rw [Int.toNat_natCast, hxm]
            refine dt_ui2l dX12_name_47 (by first | assumption | exact hwf _ _ | exact dt_b32 _ | omega | exact ⟨by omega, by omega⟩ | decide | exact ⟨by simp (disch := omega) only [dt_up_s, dt_up_k, dt_up_n]; omega, by simp (disch := omega) only [dt_up_s, dt_up_k, dt_up_n]; omega⟩) ?_
            refine dt_lor dX12_name_48 ?_
            rw [dj_lor_nn (by rw [hsv]; exact hsl), hsv]
            refine dt_lstoren dX12_name_49 rfl (by decide) rfl ?_
            dsimp only [List.set]
            refine dt_iinc dX12_name_50 rfl (by decide) rfl ?_
            dsimp only [List.set]
            refine dt_goto (tgt := 7) dX12_name_53 (by decide) ?_
            exact dt_lb (ih (q + 1) (by omega) (by omega) (Or.inr ⟨h1t, h8t⟩)) ⟨rfl, rfl, (dt_ie (by omega)), trivial⟩
  exact dt_lb (lp7 501 0 (by omega) (by omega) (Or.inl rfl)) ⟨rfl, rfl, (dt_ie (by omega)), trivial⟩
theorem s_X12_figures {ex : List dt_Shp} {σ : dt_Mem} {T : List Nat} {t : Tok} (hL : rL σ T) (ht : rTk σ T t) : dt_Sp mX12_figures 0 0 0 [dt_R 40] (dt_SH ++ ex) σ (fun v sh2 σ2 => v = some (dt_I ((nF T t : Nat) : Int)) ∧ sh2 = dt_SH ++ ex ∧ σ2 = σ) := by
  refine dt_Sp_of (by decide) (Nat.le_of_ble_eq_true rfl) ?_
  refine dt_wfV fun hwf => ?_
  obtain ⟨k1, k2, k3, k4, k5⟩ := ht.ok
  obtain ⟨⟨t1, t2, t3, t4⟩, -⟩ := id ht
  obtain ⟨r1, r2, r3, r4⟩ := rS_i k3
  have e1 := hL.1
  have e2 := hL.2.1
  show dt_V _ _ _ 0 0 0 [some (dt_R 40), none, none] [] _ _
  refine dt_iconst dX12_figures_0 ?_
  refine dt_istoren dX12_figures_1 rfl (by decide) rfl ?_
  dsimp only [List.set]
  refine dt_aloadn dX12_figures_2 rfl rfl ?_
  refine dt_getI dX12_figures_3 pg_X12_96_12 rfl rfl ?_
  refine dt_istoren dX12_figures_6 rfl (by decide) rfl ?_
  dsimp only [List.set]
  have lp7 : ∀ (fu : Nat) (q : Nat), (t.2.2 : Int) - t.2.1 - q < (fu : Int) → (t.2.1 + q ≤ t.2.2) → (q = 0 ∨ t.1 = 2) → (nV T t.2.1 q < 1000) →  dt_V mX12_figures (dt_rm 0 0 0) (dt_MC (fun v sh2 σ2 => v = some (dt_I ((nF T t : Nat) : Int)) ∧ sh2 = dt_SH ++ ex ∧ σ2 = σ) 0 0) 0 0 7 [some (dt_R 40), some (dt_I ((nV T t.2.1 q : Nat) : Int)), some (dt_I ((t.2.1 + q : Nat) : Int))] [] (dt_SH ++ ex) σ := by
    intro fu
    induction fu with
    | zero =>
      intro q hm hq hn hv
      exfalso
      omega
    | succ fu ih =>
      intro q hm hq hn hv
      refine dt_wfV fun hwf => ?_
      refine dt_iloadn dX12_figures_7 rfl rfl ?_
      refine dt_aloadn dX12_figures_8 rfl rfl ?_
      refine dt_getI dX12_figures_9 pg_X12_108_12 rfl rfl ?_
      refine dt_cm_ge (tgt := 44) dX12_figures_12 (by decide) (by first | assumption | exact hwf _ _ | exact dt_b32 _ | omega | exact ⟨by omega, by omega⟩ | decide | exact ⟨by simp (disch := omega) only [dt_up_s, dt_up_k, dt_up_n]; omega, by simp (disch := omega) only [dt_up_s, dt_up_k, dt_up_n]; omega⟩) (by first | assumption | exact hwf _ _ | exact dt_b32 _ | omega | exact ⟨by omega, by omega⟩ | decide | exact ⟨by simp (disch := omega) only [dt_up_s, dt_up_k, dt_up_n]; omega, by simp (disch := omega) only [dt_up_s, dt_up_k, dt_up_n]; omega⟩) (fun c1 => ?_) (fun c1 => ?_)
      · skip
        refine dt_iloadn dX12_figures_44 rfl rfl ?_
        refine dt_iret dX12_figures_45 rfl (by decide) (by decide) ?_
        refine ⟨?_, rfl, rfl⟩
        rcases hn with h0 | g1
        · subst h0
          have e0 : t.2.2 - t.2.1 = 0 := by omega
          unfold nF nT
          rw [e0]
          split <;> rfl
        · unfold nF nT
          rw [if_pos g1, show t.2.2 - t.2.1 = q by omega]
      · skip
        refine dt_aloadn dX12_figures_15 rfl rfl ?_
        refine dt_getI dX12_figures_16 pg_X12_99_12 rfl rfl ?_
        refine dt_iconst dX12_figures_19 ?_
        refine dt_cm_ne (tgt := 44) dX12_figures_20 (by decide) (by first | assumption | exact hwf _ _ | exact dt_b32 _ | omega | exact ⟨by omega, by omega⟩ | decide | exact ⟨by simp (disch := omega) only [dt_up_s, dt_up_k, dt_up_n]; omega, by simp (disch := omega) only [dt_up_s, dt_up_k, dt_up_n]; omega⟩) (by first | assumption | exact hwf _ _ | exact dt_b32 _ | omega | exact ⟨by omega, by omega⟩ | decide | exact ⟨by simp (disch := omega) only [dt_up_s, dt_up_k, dt_up_n]; omega, by simp (disch := omega) only [dt_up_s, dt_up_k, dt_up_n]; omega⟩) (fun c2 => ?_) (fun c2 => ?_)
        · skip
          have hx2 : ¬ t.1 = 2 := fun z => by have := r3.mpr z; omega
          refine dt_iloadn dX12_figures_44 rfl rfl ?_
          refine dt_iret dX12_figures_45 rfl (by decide) (by decide) ?_
          obtain rfl : q = 0 := by
            rcases hn with h0 | g1
            · exact h0
            · exact absurd g1 hx2
          rw [show nF T t = 0 from if_neg hx2]
          exact ⟨rfl, rfl, rfl⟩
        · skip
          have h2t : t.1 = 2 := r3.mp (by omega)
          obtain ⟨k6, k7⟩ := k4 h2t
          obtain ⟨x, hx, x1, x2⟩ := k7 (t.2.1 + q) (by omega) (by omega)
          have hxm := hL.2.2.2 _ x hx
          have hne : 10 * ((nV T t.2.1 q : Nat) : Int) + (x : Int) - 48 = ((nV T t.2.1 (q + 1) : Nat) : Int) := by
            show _ = ((nV T t.2.1 q * 10 + (T.getD (t.2.1 + q) 0 - 48) : Nat) : Int)
            rw [dt_gd hx]
            omega
          have hnv : nV T t.2.1 (q + 1) < 1000 := by
            have h := nV_le T t.2.1 (q + 1) (fun k hk => by
              obtain ⟨y, hy, -, y2⟩ := k7 (t.2.1 + k) (by omega) (by omega)
              rw [dt_gd hy]; exact y2)
            exact Nat.lt_of_lt_of_le h (Nat.pow_le_pow_right (by decide) (show q + 1 ≤ 3 by omega))
          refine dt_bipush dX12_figures_23 (by decide) ?_
          refine dt_iloadn dX12_figures_25 rfl rfl ?_
          refine dt_imul dX12_figures_26 ?_
          refine dt_aloadn dX12_figures_27 rfl rfl ?_
          refine dt_getR dX12_figures_28 pg_X12_25_12 rfl rfl ?_
          refine dt_iloadn dX12_figures_31 rfl rfl ?_
          refine dt_iald dX12_figures_32 rfl (by first | omega | (simp (disch := omega) only [dt_up_s, dt_up_k, dt_up_n]; omega)) (by first | omega | (simp (disch := omega) only [dt_up_s, dt_up_k, dt_up_n]; omega)) (by decide) ?_
          rw [Int.toNat_natCast, hxm]
          refine dt_iadd dX12_figures_33 ?_
          refine dt_bipush dX12_figures_34 (by decide) ?_
          refine dt_isub dX12_figures_36 ?_
          refine dt_istoren dX12_figures_37 rfl (by decide) rfl ?_
          dsimp only [List.set]
          refine dt_iinc dX12_figures_38 rfl (by decide) rfl ?_
          dsimp only [List.set]
          refine dt_goto (tgt := 7) dX12_figures_41 (by decide) ?_
          exact dt_lb (ih (q + 1) (by omega) (by omega) (Or.inr h2t) hnv) ⟨rfl, (dt_ie hne), (dt_ie (by omega)), trivial⟩
  exact dt_lb (lp7 501 0 (by omega) (by omega) (Or.inl rfl) (by show 0 < 1000; decide)) ⟨rfl, rfl, (dt_ie (by omega)), trivial⟩
theorem s_X12_number {ex : List dt_Shp} {σ : dt_Mem} {T : List Nat} {s : pR Tok} {lo hi : Int} (hZ : rZ σ T s) (h_lo : dt_in32 lo) (h_hi : dt_in32 hi) : dt_Sp mX12_number 3 0 0 [dt_R 40, dt_I lo, dt_I hi] (dt_SH ++ ex) σ (fun v sh2 σ2 => v = some (dt_I ((mVal T s : Nat) : Int)) ∧ sh2 = dt_SH ++ ex ∧ rG σ σ2 ∧ rZ σ2 T (mNum T lo hi s)) := by
  refine dt_Sp_of (by decide) (Nat.le_of_ble_eq_true rfl) ?_
  refine dt_wfV fun hwf => ?_
  obtain ⟨lo1, lo2⟩ := id h_lo
  obtain ⟨hi1, hi2⟩ := id h_hi
  show dt_V _ _ _ 0 0 0 [some (dt_R 40), some (dt_I lo), some (dt_I hi), none] [] _ _
  refine dt_aloadn dX12_number_0 rfl rfl ?_
  refine dt_getI dX12_number_1 pg_X12_111_12 rfl rfl ?_
  refine dt_if_le (tgt := 9) dX12_number_4 (by decide) (by first | assumption | exact hwf _ _ | exact dt_b32 _ | omega | exact ⟨by omega, by omega⟩ | decide | exact ⟨by simp (disch := omega) only [dt_up_s, dt_up_k, dt_up_n]; omega, by simp (disch := omega) only [dt_up_s, dt_up_k, dt_up_n]; omega⟩) (fun c1 => ?_) (fun c1 => ?_)
  · skip
    obtain ⟨t, rfl, hL, ht, h0⟩ | ⟨e, t, rfl, hL, ht, h1, h2, h3, h4⟩ := hZ.c
    rotate_left
    · omega
    obtain ⟨k1, k2, k3, k4, k5⟩ := ht.ok
    obtain ⟨⟨t1, t2, t3, t4⟩, -⟩ := id ht
    obtain ⟨r1, r2, r3, r4⟩ := rS_i k3
    refine dt_aloadn dX12_number_9 rfl rfl ?_
    refine dt_xV dX12_number_10 pc_X12_124 rfl (s_X12_figures hL ht) rfl rfl ⟨by decide, by decide⟩ rfl rfl (Nat.le_of_ble_eq_true rfl) ⟨by decide, by decide⟩ (dt_k3 ?_)
    refine dt_istoren dX12_number_13 rfl (by decide) rfl ?_
    dsimp only [List.set]
    refine dt_aloadn dX12_number_14 rfl rfl ?_
    refine dt_getI dX12_number_15 pg_X12_99_12 rfl rfl ?_
    refine dt_iconst dX12_number_18 ?_
    refine dt_cm_ne (tgt := 39) dX12_number_19 (by decide) (by first | assumption | exact hwf _ _ | exact dt_b32 _ | omega | exact ⟨by omega, by omega⟩ | decide | exact ⟨by simp (disch := omega) only [dt_up_s, dt_up_k, dt_up_n]; omega, by simp (disch := omega) only [dt_up_s, dt_up_k, dt_up_n]; omega⟩) (by first | assumption | exact hwf _ _ | exact dt_b32 _ | omega | exact ⟨by omega, by omega⟩ | decide | exact ⟨by simp (disch := omega) only [dt_up_s, dt_up_k, dt_up_n]; omega, by simp (disch := omega) only [dt_up_s, dt_up_k, dt_up_n]; omega⟩) (fun c2 => ?_) (fun c2 => ?_)
    · skip
      have h2f : ¬ t.1 = 2 := fun z => by have := r3.mpr z; omega
      have hM := hZ
      refine dt_aloadn dX12_number_39 rfl rfl ?_
      refine dt_aloadn dX12_number_40 rfl rfl ?_
      refine dt_getI dX12_number_41 pg_X12_99_12 rfl rfl ?_
      refine dt_iconst dX12_number_44 ?_
      refine dt_cm_ne (tgt := 52) dX12_number_45 (by decide) (by first | assumption | exact hwf _ _ | exact dt_b32 _ | omega | exact ⟨by omega, by omega⟩ | decide | exact ⟨by simp (disch := omega) only [dt_up_s, dt_up_k, dt_up_n]; omega, by simp (disch := omega) only [dt_up_s, dt_up_k, dt_up_n]; omega⟩) (by first | assumption | exact hwf _ _ | exact dt_b32 _ | omega | exact ⟨by omega, by omega⟩ | decide | exact ⟨by simp (disch := omega) only [dt_up_s, dt_up_k, dt_up_n]; omega, by simp (disch := omega) only [dt_up_s, dt_up_k, dt_up_n]; omega⟩) (fun c3 => ?_) (fun c3 => ?_)
      · skip
        refine dt_iconst dX12_number_52 ?_
        refine dt_xV dX12_number_53 pc_X12_128 rfl (s_X12_must hM (by decide)) rfl rfl ⟨by decide, by decide⟩ rfl rfl (Nat.le_of_ble_eq_true rfl) ⟨by decide, by decide⟩ ?_
        intro vm shm σm hqm
        obtain ⟨rfl, hsm, hfm, hZm⟩ := hqm
        obtain rfl := hsm.symm
        refine dt_iloadn dX12_number_56 rfl rfl ?_
        refine dt_iret dX12_number_57 rfl (by decide) (by decide) ?_
        rw [mMust_n] at hZm
        rw [show mNum T lo hi (.ok t) = .error (1, t.2.1) from if_pos h2f]
        exact ⟨rfl, rfl, hfm, hZm⟩
      · skip
        first | exact absurd c3 (by omega) | exact absurd c3 (by decide) | exact absurd rfl c3
    · skip
      have h2t : t.1 = 2 := r3.mp (by omega)
      have hn := ht.n h2t
      have hv : nF T t = nT T t := if_pos h2t
      rw [hv]
      refine dt_iloadn dX12_number_22 rfl rfl ?_
      refine dt_ui2l dX12_number_23 (by first | assumption | exact hwf _ _ | exact dt_b32 _ | omega | exact ⟨by omega, by omega⟩ | decide | exact ⟨by simp (disch := omega) only [dt_up_s, dt_up_k, dt_up_n]; omega, by simp (disch := omega) only [dt_up_s, dt_up_k, dt_up_n]; omega⟩) ?_
      refine dt_iloadn dX12_number_24 rfl rfl ?_
      refine dt_ui2l dX12_number_25 (by first | assumption | exact hwf _ _ | exact dt_b32 _ | omega | exact ⟨by omega, by omega⟩ | decide | exact ⟨by simp (disch := omega) only [dt_up_s, dt_up_k, dt_up_n]; omega, by simp (disch := omega) only [dt_up_s, dt_up_k, dt_up_n]; omega⟩) ?_
      refine dt_iloadn dX12_number_26 rfl rfl ?_
      refine dt_ui2l dX12_number_27 (by first | assumption | exact hwf _ _ | exact dt_b32 _ | omega | exact ⟨by omega, by omega⟩ | decide | exact ⟨by simp (disch := omega) only [dt_up_s, dt_up_k, dt_up_n]; omega, by simp (disch := omega) only [dt_up_s, dt_up_k, dt_up_n]; omega⟩) ?_
      refine dt_xS dX12_number_28 pc_X12_63 (s_X12_in (by first | exact ⟨by omega, by omega⟩ | decide) (by first | exact ⟨by omega, by omega⟩ | decide) (by first | exact ⟨by omega, by omega⟩ | decide)) rfl rfl ⟨by decide, by decide⟩ (Nat.le_of_ble_eq_true rfl) ⟨by decide, by decide⟩ (dt_k3 ?_)
      refine dt_if_ne (tgt := 39) dX12_number_31 (by decide) (by first | assumption | exact hwf _ _ | exact dt_b32 _ | omega | exact ⟨by omega, by omega⟩ | decide | exact ⟨by simp (disch := omega) only [dt_up_s, dt_up_k, dt_up_n]; omega, by simp (disch := omega) only [dt_up_s, dt_up_k, dt_up_n]; omega⟩) (fun c4 => ?_) (fun c4 => ?_)
      · skip
        try simp only [dt_b0, dt_b1, Decidable.not_not, Classical.not_not] at c4
        have hM := hZ
        refine dt_aloadn dX12_number_39 rfl rfl ?_
        refine dt_aloadn dX12_number_40 rfl rfl ?_
        refine dt_getI dX12_number_41 pg_X12_99_12 rfl rfl ?_
        refine dt_iconst dX12_number_44 ?_
        refine dt_cm_ne (tgt := 52) dX12_number_45 (by decide) (by first | assumption | exact hwf _ _ | exact dt_b32 _ | omega | exact ⟨by omega, by omega⟩ | decide | exact ⟨by simp (disch := omega) only [dt_up_s, dt_up_k, dt_up_n]; omega, by simp (disch := omega) only [dt_up_s, dt_up_k, dt_up_n]; omega⟩) (by first | assumption | exact hwf _ _ | exact dt_b32 _ | omega | exact ⟨by omega, by omega⟩ | decide | exact ⟨by simp (disch := omega) only [dt_up_s, dt_up_k, dt_up_n]; omega, by simp (disch := omega) only [dt_up_s, dt_up_k, dt_up_n]; omega⟩) (fun c5 => ?_) (fun c5 => ?_)
        · skip
          first | exact absurd c5 (by omega) | exact absurd c5 (by decide) | exact absurd rfl c5
        · skip
          refine dt_iconst dX12_number_48 ?_
          refine dt_goto (tgt := 53) dX12_number_49 (by decide) ?_
          refine dt_xV dX12_number_53 pc_X12_128 rfl (s_X12_must hM (by decide)) rfl rfl ⟨by decide, by decide⟩ rfl rfl (Nat.le_of_ble_eq_true rfl) ⟨by decide, by decide⟩ ?_
          intro vm shm σm hqm
          obtain ⟨rfl, hsm, hfm, hZm⟩ := hqm
          obtain rfl := hsm.symm
          refine dt_iloadn dX12_number_56 rfl rfl ?_
          refine dt_iret dX12_number_57 rfl (by decide) (by decide) ?_
          rw [mMust_y] at hZm
          rw [show mNum T lo hi (.ok t) = .ok (tk T t.2.2) from (if_neg (fun z => z h2t)).trans (if_pos (by omega)), show mVal T (.ok t) = nT T t from hv]
          exact ⟨rfl, rfl, hfm, hZm⟩
      · skip
        try simp only [dt_b0, dt_b1, Decidable.not_not, Classical.not_not] at c4
        refine dt_aloadn dX12_number_34 rfl rfl ?_
        refine dt_iconst dX12_number_35 ?_
        refine dt_xV dX12_number_36 pc_X12_120 rfl (s_X12_bad hZ (by decide)) rfl rfl ⟨by decide, by decide⟩ rfl rfl (Nat.le_of_ble_eq_true rfl) ⟨by decide, by decide⟩ ?_
        intro vb shb σb hqb
        obtain ⟨rfl, hsb, hfb, hZb⟩ := hqb
        obtain rfl := hsb.symm
        have hM := hZb
        refine dt_wfV fun hwf => ?_
        refine dt_aloadn dX12_number_39 rfl rfl ?_
        refine dt_aloadn dX12_number_40 rfl rfl ?_
        refine dt_getI dX12_number_41 pg_X12_99_12 rfl rfl ?_
        refine dt_iconst dX12_number_44 ?_
        refine dt_cm_ne (tgt := 52) dX12_number_45 (by decide) (by first | assumption | exact hwf _ _ | exact dt_b32 _ | omega | exact ⟨by omega, by omega⟩ | decide | exact ⟨by simp (disch := omega) only [dt_up_s, dt_up_k, dt_up_n]; omega, by simp (disch := omega) only [dt_up_s, dt_up_k, dt_up_n]; omega⟩) (by first | assumption | exact hwf _ _ | exact dt_b32 _ | omega | exact ⟨by omega, by omega⟩ | decide | exact ⟨by simp (disch := omega) only [dt_up_s, dt_up_k, dt_up_n]; omega, by simp (disch := omega) only [dt_up_s, dt_up_k, dt_up_n]; omega⟩) (fun c6 => ?_) (fun c6 => ?_)
        · skip
          refine dt_iconst dX12_number_52 ?_
          refine dt_xV dX12_number_53 pc_X12_128 rfl (s_X12_must hM (by decide)) rfl rfl ⟨by decide, by decide⟩ rfl rfl (Nat.le_of_ble_eq_true rfl) ⟨by decide, by decide⟩ ?_
          intro vm shm σm hqm
          obtain ⟨rfl, hsm, hfm, hZm⟩ := hqm
          obtain rfl := hsm.symm
          refine dt_iloadn dX12_number_56 rfl rfl ?_
          refine dt_iret dX12_number_57 rfl (by decide) (by decide) ?_
          rw [show mNum T lo hi (.ok t) = .error (2, t.2.1) from (if_neg (fun z => z h2t)).trans (if_neg (by omega)), show mVal T (.ok t) = nT T t from hv]
          exact ⟨rfl, rfl, hfb.tr hfm, hZm⟩
        · skip
          refine dt_iconst dX12_number_48 ?_
          refine dt_goto (tgt := 53) dX12_number_49 (by decide) ?_
          refine dt_xV dX12_number_53 pc_X12_128 rfl (s_X12_must hM (by decide)) rfl rfl ⟨by decide, by decide⟩ rfl rfl (Nat.le_of_ble_eq_true rfl) ⟨by decide, by decide⟩ ?_
          intro vm shm σm hqm
          obtain ⟨rfl, hsm, hfm, hZm⟩ := hqm
          obtain rfl := hsm.symm
          refine dt_iloadn dX12_number_56 rfl rfl ?_
          refine dt_iret dX12_number_57 rfl (by decide) (by decide) ?_
          rw [show mNum T lo hi (.ok t) = .error (2, t.2.1) from (if_neg (fun z => z h2t)).trans (if_neg (by omega)), show mVal T (.ok t) = nT T t from hv]
          exact ⟨rfl, rfl, hfb.tr hfm, hZm⟩
  · skip
    obtain ⟨t, rfl, hL, ht, h0⟩ | ⟨e, t, rfl, hL, ht, h1, h2, h3, h4⟩ := hZ.c
    · omega
    refine dt_iconst dX12_number_7 ?_
    refine dt_iret dX12_number_8 rfl (by decide) (by decide) ?_
    exact ⟨rfl, rfl, rG.refl σ, hZ⟩
theorem s_X12_sortOf {sh : List dt_Shp} {σ : dt_Mem} {x : Int} (hx : dt_in64 x) : dt_Sp mX12_sortOf 0 0 0 [dt_L x] sh σ (fun v sh2 σ2 => v = some (dt_I (sOf x)) ∧ sh2 = sh ∧ σ2 = σ) := by
  refine dt_Sp_of (by decide) (Nat.le_of_ble_eq_true rfl) ?_
  refine dt_wfV fun hwf => ?_
  show dt_V _ _ _ 0 0 0 [some (dt_L x), none] [] _ _
  refine dt_lloadn dX12_sortOf_0 rfl rfl ?_
  refine dt_ldc2 dX12_sortOf_1 pk_X12_132 ?_
  refine dt_lcmp dX12_sortOf_4 (by first | assumption | exact ⟨by omega, by omega⟩ | decide) (by first | assumption | exact ⟨by omega, by omega⟩ | decide) ?_
  refine dt_if_ne (tgt := 12) dX12_sortOf_5 (by decide) (dj_c32 _ _) (fun c1 => ?_) (fun c1 => ?_)
  · skip
    simp only [dj_cl, dj_cle, dj_cg, dj_cge, dj_ce] at c1
    refine dt_lloadn dX12_sortOf_12 rfl rfl ?_
    refine dt_ldc2 dX12_sortOf_13 pk_X12_134 ?_
    refine dt_lcmp dX12_sortOf_16 (by first | assumption | exact ⟨by omega, by omega⟩ | decide) (by first | assumption | exact ⟨by omega, by omega⟩ | decide) ?_
    refine dt_if_ne (tgt := 24) dX12_sortOf_17 (by decide) (dj_c32 _ _) (fun c2 => ?_) (fun c2 => ?_)
    · skip
      simp only [dj_cl, dj_cle, dj_cg, dj_cge, dj_ce] at c2
      refine dt_lloadn dX12_sortOf_24 rfl rfl ?_
      refine dt_ldc2 dX12_sortOf_25 pk_X12_136 ?_
      refine dt_lcmp dX12_sortOf_28 (by first | assumption | exact ⟨by omega, by omega⟩ | decide) (by first | assumption | exact ⟨by omega, by omega⟩ | decide) ?_
      refine dt_if_ne (tgt := 36) dX12_sortOf_29 (by decide) (dj_c32 _ _) (fun c3 => ?_) (fun c3 => ?_)
      · skip
        simp only [dj_cl, dj_cle, dj_cg, dj_cge, dj_ce] at c3
        refine dt_lloadn dX12_sortOf_36 rfl rfl ?_
        refine dt_ldc2 dX12_sortOf_37 pk_X12_138 ?_
        refine dt_lcmp dX12_sortOf_40 (by first | assumption | exact ⟨by omega, by omega⟩ | decide) (by first | assumption | exact ⟨by omega, by omega⟩ | decide) ?_
        refine dt_if_ne (tgt := 48) dX12_sortOf_41 (by decide) (dj_c32 _ _) (fun c4 => ?_) (fun c4 => ?_)
        · skip
          simp only [dj_cl, dj_cle, dj_cg, dj_cge, dj_ce] at c4
          refine dt_lloadn dX12_sortOf_48 rfl rfl ?_
          refine dt_ldc2 dX12_sortOf_49 pk_X12_140 ?_
          refine dt_lcmp dX12_sortOf_52 (by first | assumption | exact ⟨by omega, by omega⟩ | decide) (by first | assumption | exact ⟨by omega, by omega⟩ | decide) ?_
          refine dt_if_ne (tgt := 60) dX12_sortOf_53 (by decide) (dj_c32 _ _) (fun c5 => ?_) (fun c5 => ?_)
          · skip
            simp only [dj_cl, dj_cle, dj_cg, dj_cge, dj_ce] at c5
            refine dt_ldc dX12_sortOf_60 pk_X12_89 ?_
            refine dt_iret dX12_sortOf_62 rfl (by decide) (by decide) ?_
            refine ⟨?_, rfl, rfl⟩
            unfold sOf
            repeat (first | rw [if_pos (by assumption)] | rw [if_neg (by assumption)])
          · skip
            simp only [dj_cl, dj_cle, dj_cg, dj_cge, dj_ce] at c5
            refine dt_iconst dX12_sortOf_56 ?_
            refine dt_goto (tgt := 62) dX12_sortOf_57 (by decide) ?_
            refine dt_iret dX12_sortOf_62 rfl (by decide) (by decide) ?_
            refine ⟨?_, rfl, rfl⟩
            unfold sOf
            repeat (first | rw [if_pos (by assumption)] | rw [if_neg (by assumption)])
        · skip
          simp only [dj_cl, dj_cle, dj_cg, dj_cge, dj_ce] at c4
          refine dt_iconst dX12_sortOf_44 ?_
          refine dt_goto (tgt := 62) dX12_sortOf_45 (by decide) ?_
          refine dt_iret dX12_sortOf_62 rfl (by decide) (by decide) ?_
          refine ⟨?_, rfl, rfl⟩
          unfold sOf
          repeat (first | rw [if_pos (by assumption)] | rw [if_neg (by assumption)])
      · skip
        simp only [dj_cl, dj_cle, dj_cg, dj_cge, dj_ce] at c3
        refine dt_iconst dX12_sortOf_32 ?_
        refine dt_goto (tgt := 62) dX12_sortOf_33 (by decide) ?_
        refine dt_iret dX12_sortOf_62 rfl (by decide) (by decide) ?_
        refine ⟨?_, rfl, rfl⟩
        unfold sOf
        repeat (first | rw [if_pos (by assumption)] | rw [if_neg (by assumption)])
    · skip
      simp only [dj_cl, dj_cle, dj_cg, dj_cge, dj_ce] at c2
      refine dt_iconst dX12_sortOf_20 ?_
      refine dt_goto (tgt := 62) dX12_sortOf_21 (by decide) ?_
      refine dt_iret dX12_sortOf_62 rfl (by decide) (by decide) ?_
      refine ⟨?_, rfl, rfl⟩
      unfold sOf
      repeat (first | rw [if_pos (by assumption)] | rw [if_neg (by assumption)])
  · skip
    simp only [dj_cl, dj_cle, dj_cg, dj_cge, dj_ce] at c1
    refine dt_iconst dX12_sortOf_8 ?_
    refine dt_goto (tgt := 62) dX12_sortOf_9 (by decide) ?_
    refine dt_iret dX12_sortOf_62 rfl (by decide) (by decide) ?_
    refine ⟨?_, rfl, rfl⟩
    unfold sOf
    repeat (first | rw [if_pos (by assumption)] | rw [if_neg (by assumption)])
theorem s_X12_mustEnd {ex : List dt_Shp} {σ : dt_Mem} {T : List Nat} {s : pR Tok} (hZ : rZ σ T s) : dt_Sp mX12_mustEnd 3 0 0 [dt_R 40] (dt_SH ++ ex) σ (fun v sh2 σ2 => v = none ∧ sh2 = dt_SH ++ ex ∧ rG σ σ2 ∧ rZ σ2 T (mEnd T s)) := by
  refine dt_Sp_of (by decide) (Nat.le_of_ble_eq_true rfl) ?_
  refine dt_wfV fun hwf => ?_
  show dt_V _ _ _ 0 0 0 [some (dt_R 40)] [] _ _
  refine dt_aloadn dX12_mustEnd_0 rfl rfl ?_
  refine dt_getI dX12_mustEnd_1 pg_X12_111_12 rfl rfl ?_
  refine dt_if_ne (tgt := 24) dX12_mustEnd_4 (by decide) (by first | assumption | exact hwf _ _ | exact dt_b32 _ | omega | exact ⟨by omega, by omega⟩ | decide | exact ⟨by simp (disch := omega) only [dt_up_s, dt_up_k, dt_up_n]; omega, by simp (disch := omega) only [dt_up_s, dt_up_k, dt_up_n]; omega⟩) (fun c1 => ?_) (fun c1 => ?_)
  · skip
    obtain ⟨t, rfl, hL, ht, h0⟩ | ⟨e, t, rfl, hL, ht, h1, h2, h3, h4⟩ := hZ.c
    · omega
    refine dt_vret dX12_mustEnd_24 rfl (by decide) (by decide) ?_
    exact ⟨rfl, rfl, rG.refl σ, hZ⟩
  · skip
    obtain ⟨t, rfl, hL, ht, h0⟩ | ⟨e, t, rfl, hL, ht, h1, h2, h3, h4⟩ := hZ.c
    rotate_left
    · omega
    obtain ⟨k1, k2, k3, k4, k5⟩ := ht.ok
    obtain ⟨⟨t1, t2, t3, t4⟩, -⟩ := id ht
    obtain ⟨r1, r2, r3, r4⟩ := rS_i k3
    refine dt_aloadn dX12_mustEnd_7 rfl rfl ?_
    refine dt_aloadn dX12_mustEnd_8 rfl rfl ?_
    refine dt_getI dX12_mustEnd_9 pg_X12_99_12 rfl rfl ?_
    refine dt_iconst dX12_mustEnd_12 ?_
    refine dt_cm_ne (tgt := 20) dX12_mustEnd_13 (by decide) (by first | assumption | exact hwf _ _ | exact dt_b32 _ | omega | exact ⟨by omega, by omega⟩ | decide | exact ⟨by simp (disch := omega) only [dt_up_s, dt_up_k, dt_up_n]; omega, by simp (disch := omega) only [dt_up_s, dt_up_k, dt_up_n]; omega⟩) (by first | assumption | exact hwf _ _ | exact dt_b32 _ | omega | exact ⟨by omega, by omega⟩ | decide | exact ⟨by simp (disch := omega) only [dt_up_s, dt_up_k, dt_up_n]; omega, by simp (disch := omega) only [dt_up_s, dt_up_k, dt_up_n]; omega⟩) (fun c2 => ?_) (fun c2 => ?_)
    · skip
      have h3f : ¬ t.1 = 3 := fun z => by have := r4.mpr z; omega
      refine dt_iconst dX12_mustEnd_20 ?_
      refine dt_xV dX12_mustEnd_21 pc_X12_128 rfl (s_X12_must hZ (by decide)) rfl rfl ⟨by decide, by decide⟩ rfl rfl (Nat.le_of_ble_eq_true rfl) ⟨by decide, by decide⟩ ?_
      intro vm shm σm hqm
      obtain ⟨rfl, hsm, hfm, hZm⟩ := hqm
      obtain rfl := hsm.symm
      refine dt_vret dX12_mustEnd_24 rfl (by decide) (by decide) ?_
      rw [mMust_n] at hZm
      rw [show mEnd T (.ok t) = .error (1, t.2.1) from if_neg h3f]
      exact ⟨rfl, rfl, hfm, hZm⟩
    · skip
      have h3t : t.1 = 3 := r4.mp (by omega)
      refine dt_iconst dX12_mustEnd_16 ?_
      refine dt_goto (tgt := 21) dX12_mustEnd_17 (by decide) ?_
      refine dt_xV dX12_mustEnd_21 pc_X12_128 rfl (s_X12_must hZ (by decide)) rfl rfl ⟨by decide, by decide⟩ rfl rfl (Nat.le_of_ble_eq_true rfl) ⟨by decide, by decide⟩ ?_
      intro vm shm σm hqm
      obtain ⟨rfl, hsm, hfm, hZm⟩ := hqm
      obtain rfl := hsm.symm
      refine dt_vret dX12_mustEnd_24 rfl (by decide) (by decide) ?_
      rw [mMust_y] at hZm
      rw [show mEnd T (.ok t) = .ok (tk T t.2.2) from if_pos h3t]
      exact ⟨rfl, rfl, hfm, hZm⟩
