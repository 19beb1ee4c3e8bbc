/-! begun from kit/laws: fa_and, fa_or, fb_xorI, fb_andL, fb_orL -/
theorem fa_and (a b : Nat) : nI a &&& nI b = nI (a &&& b) := by
  apply Int32.toBitVec_inj.1
  show BitVec.ofNat 32 a &&& BitVec.ofNat 32 b = BitVec.ofNat 32 (a &&& b)
  apply BitVec.eq_of_getLsbD_eq
  intro i hi
  simp [hi]
theorem fa_or (a b : Nat) : nI a ||| nI b = nI (a ||| b) := by
  apply Int32.toBitVec_inj.1
  show BitVec.ofNat 32 a ||| BitVec.ofNat 32 b = BitVec.ofNat 32 (a ||| b)
  apply BitVec.eq_of_getLsbD_eq
  intro i hi
  simp [hi]
theorem fb_xorI (a b : Nat) : nI a ^^^ nI b = nI (a ^^^ b) := by
  apply Int32.toBitVec_inj.1
  show BitVec.ofNat 32 a ^^^ BitVec.ofNat 32 b = BitVec.ofNat 32 (a ^^^ b)
  apply BitVec.eq_of_getLsbD_eq
  intro i hi
  simp [hi]
theorem fb_andL (a b : Nat) : lN a &&& lN b = lN (a &&& b) := by
  apply Int64.toBitVec_inj.1
  show BitVec.ofNat 64 a &&& BitVec.ofNat 64 b = BitVec.ofNat 64 (a &&& b)
  apply BitVec.eq_of_getLsbD_eq
  intro i hi
  simp [hi]
theorem fb_orL (a b : Nat) : lN a ||| lN b = lN (a ||| b) := by
  apply Int64.toBitVec_inj.1
  show BitVec.ofNat 64 a ||| BitVec.ofNat 64 b = BitVec.ofNat 64 (a ||| b)
  apply BitVec.eq_of_getLsbD_eq
  intro i hi
  simp [hi]
theorem dj_of (n : Nat) : Int32.ofInt (n : Int) = nI n := Int32.ofInt_eq_ofNat
theorem dj_ofL (n : Nat) : Int64.ofInt (n : Int) = lN n := Int64.ofInt_eq_ofNat
theorem dj_and_nn {a b : Nat} (ha : a < 2147483648) : dj_and (a : Int) (b : Int) = ((a &&& b : Nat) : Int) := by
  unfold dj_and
  rw [dj_of, dj_of, fa_and, nI_toInt (Nat.lt_of_le_of_lt Nat.and_le_left ha)]
theorem dj_or_nn {a b : Nat} (ha : a < 2147483648) (hb : b < 2147483648) : dj_or (a : Int) (b : Int) = ((a ||| b : Nat) : Int) := by
  unfold dj_or
  rw [dj_of, dj_of, fa_or, nI_toInt (Nat.or_lt_two_pow (n := 31) ha hb)]
theorem dj_xor_nn {a b : Nat} (ha : a < 2147483648) (hb : b < 2147483648) : dj_xor (a : Int) (b : Int) = ((a ^^^ b : Nat) : Int) := by
  unfold dj_xor
  rw [dj_of, dj_of, fb_xorI, nI_toInt (Nat.xor_lt_two_pow (n := 31) ha hb)]
theorem dj_rem_nn {a b : Nat} (ha : a < 2147483648) (h0 : 0 < b) (hb : b < 2147483648) : dj_rem (a : Int) (b : Int) = ((a % b : Nat) : Int) := by
  unfold dj_rem
  rw [dj_of, dj_of, pk_rem ha h0 hb, nI_toInt (Nat.lt_of_le_of_lt (Nat.mod_le _ _) ha)]
theorem dj_rem_i {x y : Int} (hx : 0 ≤ x) (hx2 : x < 2147483648) (h0 : 0 < y) (hy : y < 2147483648) : dj_rem x y = x % y := by
  have h := dj_rem_nn (a := x.toNat) (b := y.toNat) (by omega) (by omega) (by omega)
  have e1 : ((x.toNat : Nat) : Int) = x := by omega
  have e2 : ((y.toNat : Nat) : Int) = y := by omega
  rw [Int.natCast_emod, e1, e2] at h
  exact h
theorem dj_lrem_i {x y : Int} (hx : 0 ≤ x) (hx2 : x < 9223372036854775808) (h0 : 0 < y) (hy : y < 9223372036854775808) : dj_lrem x y = x % y := by
  have e1 : ((x.toNat : Nat) : Int) = x := by omega
  have e2 : ((y.toNat : Nat) : Int) = y := by omega
  have h := pk_lRem (a := x.toNat) (b := y.toNat) (by omega) (by omega) (by omega)
  have h2 : dj_lrem (x.toNat : Int) (y.toNat : Int) = ((x.toNat % y.toNat : Nat) : Int) := by
    unfold dj_lrem
    rw [dj_ofL, dj_ofL, h]
    have : x.toNat % y.toNat < 2 ^ 63 := Nat.lt_of_le_of_lt (Nat.mod_le _ _) (by omega)
    exact pk_lT this
  rw [Int.natCast_emod, e1, e2] at h2
  exact h2
theorem dj_shl1 {t : Nat} (h : t < 31) : dj_shl 1 (t : Int) = ((2 ^ t : Nat) : Int) := by
  have key : ∀ t : Nat, t < 31 → (Int32.ofInt 1 <<< (Int32.ofInt (t : Int) &&& 31)).toInt = ((2 ^ t : Nat) : Int) := by decide +kernel
  exact key t h
theorem dj_mask {n k m : Nat} (h : n &&& m = k) (hn : n < 2147483648) : dj_and (n : Int) (m : Int) = (k : Int) := by rw [dj_and_nn hn, h]
theorem dj_and255 {n : Nat} (h : n < 256) : dj_and (n : Int) 255 = (n : Int) := by
  have h2 := dj_and_nn (a := n) (b := 255) (by omega)
  have h3 : n &&& 255 = n := by
    have := Nat.and_two_pow_sub_one_eq_mod n 8
    rw [show (2 ^ 8 - 1 : Nat) = 255 from rfl] at this
    rw [this]
    omega
  rw [h3] at h2
  exact h2
