
theorem dt_ie {x y : Int} (h : x = y) : some (dt_I x) = some (dt_I y) := by rw [h]
theorem dj_i32 (x : Int) : Int32.ofInt x = nI (x % 4294967296).toNat := by
  rw [← dj_of]
  apply Int32.toInt_inj.mp
  rw [Int32.toInt_ofInt, Int32.toInt_ofInt, show (((x % 4294967296).toNat : Nat) : Int) = x % 4294967296 by omega]
  exact (Int.emod_bmod x Int32.size).symm
theorem dj_and255x (x : Int) : dj_and x 255 = x % 256 := by
  unfold dj_and
  rw [dj_i32 x, show Int32.ofInt 255 = nI 255 from rfl, fa_and]
  have e : (x % 4294967296).toNat &&& 255 = (x % 4294967296).toNat % 256 := by
    have := Nat.and_two_pow_sub_one_eq_mod (x % 4294967296).toNat 8
    exact this
  rw [e, nI_toInt (by omega)]
  omega
theorem dj_i64 (x : Int) : Int64.ofInt x = lN (x % 18446744073709551616).toNat := by
  rw [← dj_ofL]
  apply Int64.toInt_inj.mp
  rw [Int64.toInt_ofInt, Int64.toInt_ofInt, show (((x % 18446744073709551616).toNat : Nat) : Int) = x % 18446744073709551616 by omega]
  exact (Int.emod_bmod x Int64.size).symm
theorem dj_land255x (x : Int) : dj_land x 255 = x % 256 := by
  unfold dj_land
  rw [dj_i64 x, show Int64.ofInt 255 = lN 255 from rfl, fb_andL]
  have e : (x % 18446744073709551616).toNat &&& 255 = (x % 18446744073709551616).toNat % 256 := by
    have := Nat.and_two_pow_sub_one_eq_mod (x % 18446744073709551616).toNat 8
    exact this
  have h : (x % 18446744073709551616).toNat % 256 < 2 ^ 63 := by omega
  rw [e, pk_lT h]
  omega
/-- byte k of a long; its lowest n bytes, the highest of them first -/
def wB (w : Int) (k : Nat) : Nat := (dj_lshr w (8 * (k : Int)) % 256).toNat
def wBs (w : Int) : Nat → List Nat
  | 0 => []
  | k + 1 => wB w k :: wBs w k
theorem wBs_len (w : Int) : ∀ n, (wBs w n).length = n
  | 0 => rfl
  | n + 1 => by rw [wBs, List.length_cons, wBs_len w n]
theorem wB_lt (w : Int) (k : Nat) : wB w k < 256 := by unfold wB; omega
theorem wB_c (w : Int) (k : Nat) : dj_and (dj_lshr w (8 * (k : Int))) 255 = (wB w k : Nat) := by
  rw [dj_and255x]; unfold wB; omega
theorem wB_r (w : Int) (k : Nat) : dj_land (dj_lshr w (8 * (k : Int))) 255 = (wB w k : Nat) := by
  rw [dj_land255x]; unfold wB; omega
theorem cTape.app {σ : dt_Mem} {T : List Nat} {b : Nat} (h : cTape σ T) (hl : T.length < 500) (hb : b < 256) : cTape (dt_up (dt_up σ 6 T.length b) 5 1 ((T.length : Int) + 1)) (T ++ [b]) := by
  obtain ⟨h1, h2, h3, h4⟩ := h
  refine ⟨by rw [List.length_append]; exact hl, fun x hx => ?_, by rw [dt_up_s, List.length_append]; rfl, fun i x hx => ?_⟩
  · rcases List.mem_append.mp hx with q | q
    · exact h2 x q
    · rw [List.mem_singleton.mp q]; exact hb
  · rcases dt_ap hx with g | ⟨rfl, rfl⟩
    · have := dt_gl g
      rw [dt_up_n (by decide), dt_up_k (by omega)]
      exact h4 i x g
    · rw [dt_up_n (by decide), dt_up_s]
theorem rTape.app {σ : dt_Mem} {T : List Nat} {b : Nat} (h : rTape σ T) : rTape (dt_up (dt_up σ 46 T.length b) 40 9 ((T.length : Int) + 1)) (T ++ [b]) := by
  obtain ⟨h3, h4⟩ := h
  refine ⟨by rw [dt_up_s, List.length_append]; rfl, fun i x hx => ?_⟩
  rcases dt_ap hx with g | ⟨rfl, rfl⟩
  · have := dt_gl g
    rw [dt_up_n (by decide), dt_up_k (by omega)]
    exact h4 i x g
  · rw [dt_up_n (by decide), dt_up_s]
def oFeed (A : dS) (w n : Int) : Int × dS := if ¬ (1 ≤ n ∧ n ≤ 8) then (-1000001, A) else if 500 < (sT A).length + n then (-1000003, A) else ((sT A).length + n, sTp A (sT A ++ wBs w n.toNat))
theorem cInv.tape {ex : List dt_Shp} {σ σ' : dt_Mem} {A : dS} {T : List Nat} (h : cInv ex σ A) (hT : cTape σ' T) (e : ∀ b, b ≠ 5 → b ≠ 6 → σ' b = σ b) : cInv ex σ' (sTp A T) := by
  obtain ⟨h1, h2, h3, h4, h5, h6, h7, h8⟩ := h
  exact ⟨h1.kept (e 2 (by decide) (by decide)) (e 3 (by decide) (by decide)) (e 4 (by decide) (by decide)), hT, h3.kept (fun b _ _ => e b (by omega) (by omega)), h4.kept (fun b _ _ => e b (by omega) (by omega)), h5.kept (fun b _ _ => e b (by omega) (by omega)), by rw [e 0 (by decide) (by decide)]; exact h6, by rw [e 0 (by decide) (by decide)]; exact h7, h8.kept (by rw [e 0 (by decide) (by decide)]) (fun b hb => e b (by omega) (by omega))⟩
theorem rInv.tape {σ σ' : dt_Mem} {A : dS} {T : List Nat} (h : rInv σ A) (hT : rTape σ' T) (e40 : ∀ k, k = 1 ∨ k = 7 ∨ k = 10 ∨ k = 29 → σ' 40 k = σ 40 k) (e : ∀ b, 41 ≤ b → b < 55 → b ≠ 46 → σ' b = σ b) : rInv σ' (sTp A T) := by
  obtain ⟨h1, h2, h3, h4, h5, h6, h7, h8⟩ := h
  refine ⟨h1.kept (e 41 (by decide) (by decide) (by decide)) (e 42 (by decide) (by decide) (by decide)) (e 43 (by decide) (by decide) (by decide)), hT, ⟨h3.1.kept (e 44 (by decide) (by decide) (by decide)), by rw [e40 7 (by decide)]; exact h3.2⟩, ⟨fun g => (h4.1 g).kept (e 53 (by decide) (by decide) (by decide)), by rw [e 52 (by decide) (by decide) (by decide)]; exact h4.2⟩, ⟨fun g => (h5.1 g).kept (e 53 (by decide) (by decide) (by decide)), by rw [e 52 (by decide) (by decide) (by decide)]; exact h5.2⟩, by rw [e40 10 (by decide)]; exact h6, by rw [e40 1 (by decide)]; exact h7, ⟨by rw [e40 29 (by decide)]; exact h8.1, h8.2.1, by rw [e 54 (by decide) (by decide) (by decide)]; exact h8.2.2⟩⟩
theorem s_X9_hasRoom {ex : List dt_Shp} {σ : dt_Mem} {T : List Nat} {n : Int} (hT : cTape σ T) (hn : dt_in32 n) : dt_Sp mX9_hasRoom 0 0 0 [dt_R 5, dt_I n] (dt_SH ++ ex) σ (fun v sh2 σ2 => v = some (dt_I (dt_b ((T.length : Int) + n ≤ 500))) ∧ sh2 = dt_SH ++ ex ∧ σ2 = σ) := by
  refine dt_Sp_of (by decide) (Nat.le_of_ble_eq_true rfl) ?_
  refine dt_wfV fun hwf => ?_
  have e1 := hT.2.2.1
  have e2 := hT.1
  show dt_V _ _ _ 0 0 0 [some (dt_R 5), some (dt_I n)] [] _ _
  refine dt_iloadn dX9_hasRoom_0 rfl rfl ?_
  refine dt_sipush dX9_hasRoom_1 (by decide) ?_
  refine dt_aloadn dX9_hasRoom_4 rfl rfl ?_
  refine dt_getI dX9_hasRoom_5 pg_X9_18_9 rfl rfl ?_
  refine dt_isub dX9_hasRoom_8 ?_
  refine dt_cm_gt (tgt := 16) dX9_hasRoom_9 (by decide) (by first | assumption | exact hwf _ _ | exact dt_b32 _ | omega | exact ⟨by omega, by omega⟩ | decide | exact ⟨by simp (disch := omega) only [dt_up_s, dt_up_k, dt_up_n]; omega, by simp (disch := omega) only [dt_up_s, dt_up_k, dt_up_n]; omega⟩) (by first | assumption | exact hwf _ _ | exact dt_b32 _ | omega | exact ⟨by omega, by omega⟩ | decide | exact ⟨by simp (disch := omega) only [dt_up_s, dt_up_k, dt_up_n]; omega, by simp (disch := omega) only [dt_up_s, dt_up_k, dt_up_n]; omega⟩) (fun c1 => ?_) (fun c1 => ?_)
  · skip
    refine dt_iconst dX9_hasRoom_16 ?_
    refine dt_zret dX9_hasRoom_17 rfl (by decide) (by decide) (by first | exact Or.inl rfl | exact Or.inr rfl | assumption | omega) ?_
    first | exact ⟨by rw [dt_bT (by omega)], rfl, rfl⟩ | exact ⟨by rw [dt_bF (by omega)], rfl, rfl⟩
  · skip
    refine dt_iconst dX9_hasRoom_12 ?_
    refine dt_goto (tgt := 17) dX9_hasRoom_13 (by decide) ?_
    refine dt_zret dX9_hasRoom_17 rfl (by decide) (by decide) (by first | exact Or.inl rfl | exact Or.inr rfl | assumption | omega) ?_
    first | exact ⟨by rw [dt_bT (by omega)], rfl, rfl⟩ | exact ⟨by rw [dt_bF (by omega)], rfl, rfl⟩
theorem s_X9_append {ex : List dt_Shp} {σ : dt_Mem} {T : List Nat} {w : Int} {N : Nat} (hT : cTape σ T) (hN : N ≤ 8) (hl : T.length + N ≤ 500) : dt_Sp mX9_append 0 0 0 [dt_R 5, dt_L w, dt_I (N : Int)] (dt_SH ++ ex) σ (fun v sh2 σ2 => v = some (dt_I ((T.length : Int) + N)) ∧ sh2 = dt_SH ++ ex ∧ cTape σ2 (T ++ wBs w N) ∧ ∀ b, b ≠ 5 → b ≠ 6 → σ2 b = σ b) := by
  refine dt_Sp_of (by decide) (Nat.le_of_ble_eq_true rfl) ?_
  refine dt_wfV fun hwf => ?_
  show dt_V _ _ _ 0 0 0 [some (dt_R 5), some (dt_L w), none, some (dt_I (N : Int)), none] [] _ _
  refine dt_iloadn dX9_append_0 rfl rfl ?_
  refine dt_iconst dX9_append_1 ?_
  refine dt_isub dX9_append_2 ?_
  refine dt_istore dX9_append_3 (by decide) rfl ?_
  dsimp only [List.set]
  have lp5 : ∀ (fu : Nat) (k : Nat) (T1 : List Nat) (σ1 : dt_Mem), (k : Int) < (fu : Int) → (T1.length + k = T.length + N) → (cTape σ1 T1) → (∀ b, b ≠ 5 → b ≠ 6 → σ1 b = σ b) → (T1 ++ wBs w k = T ++ wBs w N) →  dt_V mX9_append (dt_rm 0 0 0) (dt_MC (fun v sh2 σ2 => v = some (dt_I ((T.length : Int) + N)) ∧ sh2 = dt_SH ++ ex ∧ cTape σ2 (T ++ wBs w N) ∧ ∀ b, b ≠ 5 → b ≠ 6 → σ2 b = σ b) 0 0) 0 0 5 [some (dt_R 5), some (dt_L w), none, some (dt_I (N : Int)), some (dt_I ((k : Int) - 1))] [] (dt_SH ++ ex) σ1 := by
    intro fu
    induction fu with
    | zero =>
      intro k T1 σ1 hm hk kT kf kr
      exfalso
      omega
    | succ fu ih =>
      intro k T1 σ1 hm hk kT kf kr
      refine dt_wfV fun hwf => ?_
      have e1 := kT.2.2.1
      have e2 := kT.1
      refine dt_iload dX9_append_5 rfl ?_
      refine dt_if_lt (tgt := 57) dX9_append_7 (by decide) (by first | assumption | exact hwf _ _ | exact dt_b32 _ | omega | exact ⟨by omega, by omega⟩ | decide | exact ⟨by simp (disch := omega) only [dt_up_s, dt_up_k, dt_up_n]; omega, by simp (disch := omega) only [dt_up_s, dt_up_k, dt_up_n]; omega⟩) (fun c1 => ?_) (fun c1 => ?_)
      · skip
        have hk0 : k = 0 := by omega
        subst hk0
        refine dt_aloadn dX9_append_57 rfl rfl ?_
        refine dt_getI dX9_append_58 pg_X9_18_9 rfl rfl ?_
        refine dt_iret dX9_append_61 rfl (by decide) (by decide) ?_
        have kr2 : T1 = T ++ wBs w N := by rw [← kr]; exact (List.append_nil _).symm
        refine ⟨dt_ie (by omega), rfl, kr2 ▸ kT, kf⟩
      · skip
        obtain ⟨k, rfl⟩ : ∃ z, k = z + 1 := ⟨k - 1, by omega⟩
        refine dt_aloadn dX9_append_10 rfl rfl ?_
        refine dt_getI dX9_append_11 pg_X9_18_9 rfl rfl ?_
        refine dt_sipush dX9_append_14 (by decide) ?_
        refine dt_cm_ge (tgt := 57) dX9_append_17 (by decide) (by first | assumption | exact hwf _ _ | exact dt_b32 _ | omega | exact ⟨by omega, by omega⟩ | decide | exact ⟨by simp (disch := omega) only [dt_up_s, dt_up_k, dt_up_n]; omega, by simp (disch := omega) only [dt_up_s, dt_up_k, dt_up_n]; omega⟩) (by first | assumption | exact hwf _ _ | exact dt_b32 _ | omega | exact ⟨by omega, by omega⟩ | decide | exact ⟨by simp (disch := omega) only [dt_up_s, dt_up_k, dt_up_n]; omega, by simp (disch := omega) only [dt_up_s, dt_up_k, dt_up_n]; omega⟩) (fun c2 => ?_) (fun c2 => ?_)
        · skip
          first | exact absurd c2 (by omega) | exact absurd c2 (by decide) | exact absurd rfl c2
        · skip
          refine dt_aloadn dX9_append_20 rfl rfl ?_
          refine dt_getR dX9_append_21 pg_X9_11_9 rfl rfl ?_
          refine dt_aloadn dX9_append_24 rfl rfl ?_
          refine dt_getI dX9_append_25 pg_X9_18_9 rfl rfl ?_
          refine dt_lloadn dX9_append_28 rfl rfl ?_
          refine dt_bipush dX9_append_29 (by decide) ?_
          refine dt_iload dX9_append_31 rfl ?_
          refine dt_imul dX9_append_33 ?_
          refine dt_lshr dX9_append_34 ?_
          refine dt_ul2i dX9_append_35 ?_
          refine dt_sipush dX9_append_36 (by decide) ?_
          refine dt_iand dX9_append_39 ?_
          rw [show ((k + 1 : Nat) : Int) - 1 = (k : Int) by omega, wB_c]
          have hb := wB_lt w k
          refine dt_wfV fun hwf => ?_
          refine dt_iast dX9_append_40 rfl (by first | omega | (simp (disch := omega) only [dt_up_s, dt_up_k, dt_up_n]; omega)) (by first | omega | (simp (disch := omega) only [dt_up_s, dt_up_k, dt_up_n]; omega)) (by decide) (by first | assumption | exact hwf _ _ | exact dt_b32 _ | omega | exact ⟨by omega, by omega⟩ | decide | exact ⟨by simp (disch := omega) only [dt_up_s, dt_up_k, dt_up_n]; omega, by simp (disch := omega) only [dt_up_s, dt_up_k, dt_up_n]; omega⟩) ?_
          refine dt_aloadn dX9_append_41 rfl rfl ?_
          refine dt_dupR dX9_append_42 ?_
          refine dt_getI dX9_append_43 pg_X9_18_9 rfl rfl ?_
          refine dt_iconst dX9_append_46 ?_
          refine dt_iadd dX9_append_47 ?_
          rw [dt_up_n (by decide)]
          have q1 := kT.app (b := wB w k) (by omega) hb
          rw [e1, Int.toNat_natCast]
          refine dt_wfV fun hwf => ?_
          refine dt_putI dX9_append_48 pw_X9_18_9 rfl rfl (by first | assumption | exact hwf _ _ | exact dt_b32 _ | omega | exact ⟨by omega, by omega⟩ | decide | exact ⟨by simp (disch := omega) only [dt_up_s, dt_up_k, dt_up_n]; omega, by simp (disch := omega) only [dt_up_s, dt_up_k, dt_up_n]; omega⟩) ?_
          refine dt_iinc dX9_append_51 rfl (by decide) rfl ?_
          dsimp only [List.set]
          refine dt_goto (tgt := 5) dX9_append_54 (by decide) ?_
          exact dt_lb (ih k (T1 ++ [wB w k]) _ (by omega) (by rw [List.length_append]; have : ([wB w k] : List Nat).length = 1 := rfl; omega) q1 (fun b h5 h6 => by rw [dt_up_o h5, dt_up_o h6]; exact kf b h5 h6) (by rw [List.append_assoc]; exact kr)) ⟨rfl, rfl, rfl, (dt_ie (by omega)), trivial⟩
  exact dt_lb (lp5 9 N T σ (by omega) rfl hT (fun b _ _ => rfl) rfl) ⟨rfl, rfl, rfl, rfl, trivial⟩
theorem s_X11_feed {ex : List dt_Shp} {σ : dt_Mem} {A : dS} {w n : Int} (hI : cInv ex σ A) (h_n : dt_in32 n) : dt_Sp mX11_feed 2 0 0 [dt_R 0, dt_L w, dt_I n] (dt_SH ++ ex) σ (fun v sh2 σ2 => v = some (dt_I (oFeed A w n).1) ∧ sh2 = dt_SH ++ ex ∧ cEnd ex σ σ2 (oFeed A w n).2) := by
  refine dt_Sp_of (by decide) (Nat.le_of_ble_eq_true rfl) ?_
  refine dt_wfV fun hwf => ?_
  show dt_V _ _ _ 0 0 0 [some (dt_R 0), some (dt_L w), none, some (dt_I n)] [] _ _
  refine dt_iloadn dX11_feed_0 rfl rfl ?_
  refine dt_iconst dX11_feed_1 ?_
  refine dt_bipush dX11_feed_2 (by decide) ?_
  refine dt_xS dX11_feed_4 pc_X11_70 (s_X11_isWithin (by first | assumption | exact hwf _ _ | exact dt_b32 _ | omega | exact ⟨by omega, by omega⟩ | decide | exact ⟨by simp (disch := omega) only [dt_up_s, dt_up_k, dt_up_n]; omega, by simp (disch := omega) only [dt_up_s, dt_up_k, dt_up_n]; omega⟩) (by first | assumption | exact hwf _ _ | exact dt_b32 _ | omega | exact ⟨by omega, by omega⟩ | decide | exact ⟨by simp (disch := omega) only [dt_up_s, dt_up_k, dt_up_n]; omega, by simp (disch := omega) only [dt_up_s, dt_up_k, dt_up_n]; omega⟩) (by first | assumption | exact hwf _ _ | exact dt_b32 _ | omega | exact ⟨by omega, by omega⟩ | decide | exact ⟨by simp (disch := omega) only [dt_up_s, dt_up_k, dt_up_n]; omega, by simp (disch := omega) only [dt_up_s, dt_up_k, dt_up_n]; omega⟩)) rfl rfl ⟨by decide, by decide⟩ (Nat.le_of_ble_eq_true rfl) ⟨by decide, by decide⟩ (dt_k3 ?_)
  refine dt_if_ne (tgt := 13) dX11_feed_7 (by decide) (by first | assumption | exact hwf _ _ | exact dt_b32 _ | omega | exact ⟨by omega, by omega⟩ | decide | exact ⟨by simp (disch := omega) only [dt_up_s, dt_up_k, dt_up_n]; omega, by simp (disch := omega) only [dt_up_s, dt_up_k, dt_up_n]; omega⟩) (fun c1 => ?_) (fun c1 => ?_)
  · skip
    try simp only [dt_b0, dt_b1, Decidable.not_not, Classical.not_not] at c1
    refine dt_aloadn dX11_feed_13 rfl rfl ?_
    refine dt_getR dX11_feed_14 pg_X11_19_11 rfl rfl ?_
    refine dt_iloadn dX11_feed_17 rfl rfl ?_
    refine dt_xV dX11_feed_18 pc_X11_106 rfl (s_X9_hasRoom hI.2.1 (by first | assumption | exact hwf _ _ | exact dt_b32 _ | omega | exact ⟨by omega, by omega⟩ | decide | exact ⟨by simp (disch := omega) only [dt_up_s, dt_up_k, dt_up_n]; omega, by simp (disch := omega) only [dt_up_s, dt_up_k, dt_up_n]; omega⟩)) rfl rfl ⟨by decide, by decide⟩ rfl rfl (Nat.le_of_ble_eq_true rfl) ⟨by decide, by decide⟩ (dt_k3 ?_)
    refine dt_if_ne (tgt := 27) dX11_feed_21 (by decide) (by first | assumption | exact hwf _ _ | exact dt_b32 _ | omega | exact ⟨by omega, by omega⟩ | decide | exact ⟨by simp (disch := omega) only [dt_up_s, dt_up_k, dt_up_n]; omega, by simp (disch := omega) only [dt_up_s, dt_up_k, dt_up_n]; omega⟩) (fun c2 => ?_) (fun c2 => ?_)
    · skip
      try simp only [dt_b0, dt_b1, Decidable.not_not, Classical.not_not] at c2
      refine dt_aloadn dX11_feed_27 rfl rfl ?_
      refine dt_getR dX11_feed_28 pg_X11_19_11 rfl rfl ?_
      refine dt_lloadn dX11_feed_31 rfl rfl ?_
      refine dt_iloadn dX11_feed_32 rfl rfl ?_
      obtain ⟨N, rfl⟩ : ∃ N : Nat, n = N := ⟨n.toNat, by omega⟩
      refine dt_xV dX11_feed_33 pc_X11_110 rfl (s_X9_append hI.2.1 (by omega) (by omega)) rfl rfl ⟨by decide, by decide⟩ rfl rfl (Nat.le_of_ble_eq_true rfl) ⟨by decide, by decide⟩ ?_
      intro v3 sh3 σ3 hq3
      obtain ⟨rfl, hs3, hT3, hf3⟩ := hq3
      obtain rfl := hs3.symm
      refine dt_iret dX11_feed_36 rfl (by decide) (by decide) ?_
      have e : oFeed A w ↑N = (((sT A).length : Int) + N, sTp A (sT A ++ wBs w N)) := by
        unfold oFeed
        rw [if_neg (by omega), if_neg (by omega), Int.toNat_natCast]
      rw [e]
      exact ⟨rfl, rfl, hI.tape hT3 hf3, fun b h1 h2 => hf3 b (by omega) (by omega)⟩
    · skip
      try simp only [dt_b0, dt_b1, Decidable.not_not, Classical.not_not] at c2
      refine dt_ldc dX11_feed_24 pk_X11_109 ?_
      refine dt_iret dX11_feed_26 rfl (by decide) (by decide) ?_
      have e : oFeed A w n = (-1000003, A) := by
        unfold oFeed
        rw [if_neg (by omega), if_pos (by omega)]
      rw [e]
      exact ⟨rfl, rfl, hI, fun b _ _ => rfl⟩
  · skip
    try simp only [dt_b0, dt_b1, Decidable.not_not, Classical.not_not] at c1
    refine dt_ldc dX11_feed_10 pk_X11_74 ?_
    refine dt_iret dX11_feed_12 rfl (by decide) (by decide) ?_
    have e : oFeed A w n = (-1000001, A) := by
      unfold oFeed
      rw [if_pos (by omega)]
    rw [e]
    exact ⟨rfl, rfl, hI, fun b _ _ => rfl⟩
theorem s_X12_feed {ex : List dt_Shp} {σ : dt_Mem} {A : dS} {w n : Int} (hI : rInv σ A) (h_n : dt_in32 n) (hTl : (sT A).length ≤ 500) : dt_Sp mX12_feed 1 0 0 [dt_R 40, dt_L w, dt_I n] (dt_SH ++ ex) σ (fun v sh2 σ2 => v = some (dt_I (oFeed A w n).1) ∧ sh2 = dt_SH ++ ex ∧ rEnd σ σ2 (oFeed A w n).2) := by
  refine dt_Sp_of (by decide) (Nat.le_of_ble_eq_true rfl) ?_
  refine dt_wfV fun hwf => ?_
  show dt_V _ _ _ 0 0 0 [some (dt_R 40), some (dt_L w), none, some (dt_I n), none] [] _ _
  refine dt_aloadn dX12_feed_0 rfl rfl ?_
  refine dt_iconst dX12_feed_1 ?_
  refine dt_wfV fun hwf => ?_
  refine dt_putI dX12_feed_2 pw_X12_53_12 rfl rfl (by first | assumption | exact hwf _ _ | exact dt_b32 _ | omega | exact ⟨by omega, by omega⟩ | decide | exact ⟨by simp (disch := omega) only [dt_up_s, dt_up_k, dt_up_n]; omega, by simp (disch := omega) only [dt_up_s, dt_up_k, dt_up_n]; omega⟩) ?_
  obtain ⟨σa, ea⟩ : ∃ z, z = dt_up σ 40 0 0 := ⟨_, rfl⟩
  rw [← ea]
  have hA := hI.up40 0 0 (by decide)
  rw [← ea] at hA
  have fa : ∀ b, (b < 40 ∨ 55 ≤ b) → σa b = σ b := fun b hb => by rw [ea]; exact dt_up_o (by omega)
  clear ea
  refine dt_wfV fun hwf => ?_
  have e1 := hA.2.1.1
  refine dt_iloadn dX12_feed_5 rfl rfl ?_
  refine dt_ui2l dX12_feed_6 (by first | assumption | exact hwf _ _ | exact dt_b32 _ | omega | exact ⟨by omega, by omega⟩ | decide | exact ⟨by simp (disch := omega) only [dt_up_s, dt_up_k, dt_up_n]; omega, by simp (disch := omega) only [dt_up_s, dt_up_k, dt_up_n]; omega⟩) ?_
  refine dt_lconst (x := 1) dX12_feed_7 (by decide) ?_
  refine dt_ldc2 dX12_feed_8 pk_X12_78 ?_
  refine dt_xS dX12_feed_11 pc_X12_63 (s_X12_in (by first | exact ⟨by omega, by omega⟩ | decide) (by first | exact ⟨by omega, by omega⟩ | decide) (by first | exact ⟨by omega, by omega⟩ | decide)) rfl rfl ⟨by decide, by decide⟩ (Nat.le_of_ble_eq_true rfl) ⟨by decide, by decide⟩ (dt_k3 ?_)
  refine dt_if_ne (tgt := 20) dX12_feed_14 (by decide) (by first | assumption | exact hwf _ _ | exact dt_b32 _ | omega | exact ⟨by omega, by omega⟩ | decide | exact ⟨by simp (disch := omega) only [dt_up_s, dt_up_k, dt_up_n]; omega, by simp (disch := omega) only [dt_up_s, dt_up_k, dt_up_n]; omega⟩) (fun c1 => ?_) (fun c1 => ?_)
  · skip
    try simp only [dt_b0, dt_b1, Decidable.not_not, Classical.not_not] at c1
    refine dt_aloadn dX12_feed_20 rfl rfl ?_
    refine dt_getI dX12_feed_21 pg_X12_80_12 rfl rfl ?_
    refine dt_iloadn dX12_feed_24 rfl rfl ?_
    refine dt_iadd dX12_feed_25 ?_
    refine dt_sipush dX12_feed_26 (by decide) ?_
    refine dt_cm_le (tgt := 35) dX12_feed_29 (by decide) (by first | assumption | exact hwf _ _ | exact dt_b32 _ | omega | exact ⟨by omega, by omega⟩ | decide | exact ⟨by simp (disch := omega) only [dt_up_s, dt_up_k, dt_up_n]; omega, by simp (disch := omega) only [dt_up_s, dt_up_k, dt_up_n]; omega⟩) (by first | assumption | exact hwf _ _ | exact dt_b32 _ | omega | exact ⟨by omega, by omega⟩ | decide | exact ⟨by simp (disch := omega) only [dt_up_s, dt_up_k, dt_up_n]; omega, by simp (disch := omega) only [dt_up_s, dt_up_k, dt_up_n]; omega⟩) (fun c2 => ?_) (fun c2 => ?_)
    · skip
      refine dt_iloadn dX12_feed_35 rfl rfl ?_
      refine dt_iconst dX12_feed_36 ?_
      refine dt_isub dX12_feed_37 ?_
      obtain ⟨N, hN⟩ : ∃ N : Nat, n = N := ⟨n.toNat, by omega⟩
      refine dt_istore dX12_feed_38 (by decide) rfl ?_
      dsimp only [List.set]
      have lp40 : ∀ (fu : Nat) (k : Nat) (T1 : List Nat) (σ1 : dt_Mem), (k : Int) < (fu : Int) → (T1.length + k = (sT A).length + N) → (rTape σ1 T1) → (∀ b k, b ≠ 46 → (b ≠ 40 ∨ k ≠ 9) → σ1 b k = σa b k) → (T1 ++ wBs w k = sT A ++ wBs w N) →  dt_V mX12_feed (dt_rm 1 0 0) (dt_MC (fun v sh2 σ2 => v = some (dt_I (oFeed A w n).1) ∧ sh2 = dt_SH ++ ex ∧ rEnd σ σ2 (oFeed A w n).2) 0 0) 0 0 40 [some (dt_R 40), some (dt_L w), none, none, some (dt_I ((k : Int) - 1))] [] (dt_SH ++ ex) σ1 := by
        intro fu
        induction fu with
        | zero =>
          intro k T1 σ1 hm hk kT kf kr
          exfalso
          omega
        | succ fu ih =>
          intro k T1 σ1 hm hk kT kf kr
          refine dt_wfV fun hwf => ?_
          have e2 := kT.1
          refine dt_iload dX12_feed_40 rfl ?_
          refine dt_if_lt (tgt := 82) dX12_feed_42 (by decide) (by first | assumption | exact hwf _ _ | exact dt_b32 _ | omega | exact ⟨by omega, by omega⟩ | decide | exact ⟨by simp (disch := omega) only [dt_up_s, dt_up_k, dt_up_n]; omega, by simp (disch := omega) only [dt_up_s, dt_up_k, dt_up_n]; omega⟩) (fun c3 => ?_) (fun c3 => ?_)
          · skip
            have hk0 : k = 0 := by omega
            subst hk0
            refine dt_aloadn dX12_feed_82 rfl rfl ?_
            refine dt_getI dX12_feed_83 pg_X12_80_12 rfl rfl ?_
            refine dt_iret dX12_feed_86 rfl (by decide) (by decide) ?_
            have e : oFeed A w n = (((sT A).length : Int) + n, sTp A (sT A ++ wBs w n.toNat)) := by
              unfold oFeed
              rw [if_neg (by omega), if_neg (by omega)]
            rw [e]
            rw [show n.toNat = N by omega]
            have kr2 : T1 = sT A ++ wBs w N := by rw [← kr]; exact (List.append_nil _).symm
            refine ⟨dt_ie (by omega), rfl, hA.tape (kr2 ▸ kT) (fun k hk => kf 40 k (by decide) (by omega)) (fun b h1 h2 h3 => funext fun k => kf b k h3 (Or.inl (by omega))), fun b hb => ?_⟩
            exact (funext fun k => kf b k (by omega) (Or.inl (by omega))).trans (fa b hb)
          · skip
            obtain ⟨k, rfl⟩ : ∃ z, k = z + 1 := ⟨k - 1, by omega⟩
            refine dt_aloadn dX12_feed_45 rfl rfl ?_
            refine dt_getR dX12_feed_46 pg_X12_25_12 rfl rfl ?_
            refine dt_aloadn dX12_feed_49 rfl rfl ?_
            refine dt_getI dX12_feed_50 pg_X12_80_12 rfl rfl ?_
            refine dt_lloadn dX12_feed_53 rfl rfl ?_
            refine dt_bipush dX12_feed_54 (by decide) ?_
            refine dt_iload dX12_feed_56 rfl ?_
            refine dt_imul dX12_feed_58 ?_
            refine dt_lshr dX12_feed_59 ?_
            refine dt_ldc2 dX12_feed_60 pk_X12_84 ?_
            refine dt_land dX12_feed_63 ?_
            refine dt_ul2i dX12_feed_64 ?_
            rw [show ((k + 1 : Nat) : Int) - 1 = (k : Int) by omega, wB_r]
            have hb := wB_lt w k
            refine dt_wfV fun hwf => ?_
            refine dt_iast dX12_feed_65 rfl (by first | omega | (simp (disch := omega) only [dt_up_s, dt_up_k, dt_up_n]; omega)) (by first | omega | (simp (disch := omega) only [dt_up_s, dt_up_k, dt_up_n]; omega)) (by decide) (by first | assumption | exact hwf _ _ | exact dt_b32 _ | omega | exact ⟨by omega, by omega⟩ | decide | exact ⟨by simp (disch := omega) only [dt_up_s, dt_up_k, dt_up_n]; omega, by simp (disch := omega) only [dt_up_s, dt_up_k, dt_up_n]; omega⟩) ?_
            refine dt_aloadn dX12_feed_66 rfl rfl ?_
            refine dt_dupR dX12_feed_67 ?_
            refine dt_getI dX12_feed_68 pg_X12_80_12 rfl rfl ?_
            refine dt_iconst dX12_feed_71 ?_
            refine dt_iadd dX12_feed_72 ?_
            rw [dt_up_n (by decide)]
            have q1 := kT.app (b := wB w k)
            rw [e2, Int.toNat_natCast]
            refine dt_wfV fun hwf => ?_
            refine dt_putI dX12_feed_73 pw_X12_80_12 rfl rfl (by first | assumption | exact hwf _ _ | exact dt_b32 _ | omega | exact ⟨by omega, by omega⟩ | decide | exact ⟨by simp (disch := omega) only [dt_up_s, dt_up_k, dt_up_n]; omega, by simp (disch := omega) only [dt_up_s, dt_up_k, dt_up_n]; omega⟩) ?_
            refine dt_iinc dX12_feed_76 rfl (by decide) rfl ?_
            dsimp only [List.set]
            refine dt_goto (tgt := 40) dX12_feed_79 (by decide) ?_
            exact dt_lb (ih k (T1 ++ [wB w k]) _ (by omega) (by rw [List.length_append]; have : ([wB w k] : List Nat).length = 1 := rfl; omega) q1 (fun b j h5 h6 => by rw [dt_up_ne h6, dt_up_n h5]; exact kf b j h5 h6) (by rw [List.append_assoc]; exact kr)) ⟨rfl, rfl, (dt_ie (by omega)), trivial⟩
      exact dt_lb (lp40 9 N (sT A) σa (by omega) rfl hA.2.1 (fun b k _ _ => rfl) rfl) ⟨rfl, rfl, (dt_ie (by omega)), trivial⟩
    · skip
      refine dt_ldc dX12_feed_32 pk_X12_83 ?_
      refine dt_iret dX12_feed_34 rfl (by decide) (by decide) ?_
      have e : oFeed A w n = (-1000003, A) := by
        unfold oFeed
        rw [if_neg (by omega), if_pos (by omega)]
      rw [e]
      exact ⟨rfl, rfl, hA, fa⟩
  · skip
    try simp only [dt_b0, dt_b1, Decidable.not_not, Classical.not_not] at c1
    refine dt_ldc dX12_feed_17 pk_X12_73 ?_
    refine dt_iret dX12_feed_19 rfl (by decide) (by decide) ?_
    have e : oFeed A w n = (-1000001, A) := by
      unfold oFeed
      rw [if_pos (by omega)]
    rw [e]
    exact ⟨rfl, rfl, hA, fa⟩
