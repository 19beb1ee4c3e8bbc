
/-! what a word answers, the steps it leaves: kind, number, what is common -/
def mkV (k : Nat) (w c : Int) : Int := if k = 1 then w + c else if k = 2 then w + c + 1000 else if k = 3 then 2 * (w + c + 1000) else w - c
def mkT (k : Nat) : List Int := if k = 1 then [21, 20] else if k = 2 then [22, 21, 20] else if k = 3 then [24, 22, 21, 20] else [23, 20]
def szV (k : Nat) (n w c : Int) : Int := if k = 1 ∨ k = 2 then n + mkV k w c else if k = 3 then 0 - (n + mkV k w c) else if k = 4 then n - mkV k w c else 2 * (n - mkV k w c)
def szT (k : Nat) : List Int := (if k = 1 ∨ k = 2 then [11, 10] else if k = 3 then [12, 11, 10] else if k = 4 then [13, 10] else [14, 13, 10]) ++ mkT k
def sTc (A : dS) (l : List Int) : dS := (sR A, sT A, sN A, sI A, sF A, sS A, l)
def kOf (a b : Int) : Prop := b = 0 ∨ a = b ∨ (b = 1 ∧ a < 4) ∨ (b = 2 ∧ a = 3) ∨ (b = 4 ∧ a = 5)
noncomputable def oAs (A : dS) (t w kd : Int) : Int × dS := match xAt (sN A) t w with
  | none => (-1000001, A)
  | some wd => if ¬ (0 ≤ kd ∧ kd ≤ 5) then (-1000001, A) else by
    classical
    exact if kOf wd.1 kd then (w, sSt A 0) else (-1000013, sSt A 3)
def oAsk (A : dS) (t w what : Int) : Int × dS := match xAt (sN A) t w with
  | none => (-1000001, A)
  | some wd => if ¬ (0 ≤ what ∧ what ≤ 1) then (-1000001, A) else if what = 0 then (szV wd.1 wd.2.length w (xCom wd.2), sTc A (szT wd.1)) else (mkV wd.1 w (xCom wd.2), sTc A (mkT wd.1))
def oTrace (A : dS) (i : Int) : Int × dS := (if 0 ≤ i ∧ i < (sC A).length then (sC A).getD i.toNat 0 else -1000000, A)
theorem xCom_1 {rs : List Nat} {r : Nat} (h : rs.length = 1) (hr : rs[0]? = some r) (h8 : r < 256) : xCom rs = r := by
  obtain ⟨x, rfl⟩ := List.length_eq_one_iff.mp h
  obtain rfl : x = r := Option.some.inj hr
  show 255 &&& x = x
  rw [Nat.and_comm]
  have := Nat.and_two_pow_sub_one_eq_mod x 8
  rw [show (2 ^ 8 - 1 : Nat) = 255 from rfl] at this
  rw [this]
  omega
def rW (σ σ1 : dt_Mem) : Prop := ∀ b k, (b ≠ 40 ∨ k ≠ 29) → b ≠ 54 → σ1 b k = σ b k
theorem rW.refl (σ : dt_Mem) : rW σ σ := fun _ _ _ _ => rfl
theorem rW.tr {σ σ1 σ2 : dt_Mem} (h : rW σ σ1) (g : rW σ1 σ2) : rW σ σ2 := fun b k a c => (g b k a c).trans (h b k a c)
theorem rW.X {σ σ1 : dt_Mem} {X : dX} (h : rW σ σ1) (hX : rX σ X) : rX σ1 X := hX.kept (funext fun k => h 44 k (Or.inl (by decide)) (by decide))
theorem rTrace.app {σ : dt_Mem} {l : List Int} {x : Int} (h : rTrace σ l) (hl : l.length < 16) : rTrace (dt_up (dt_up σ 54 l.length x) 40 29 ((l.length : Int) + 1)) (l ++ [x]) := by
  obtain ⟨h1, h2, h3⟩ := h
  refine ⟨by rw [dt_up_s, List.length_append]; rfl, by rw [List.length_append]; show l.length + 1 ≤ 16; omega, fun i y hy => ?_⟩
  rcases dt_ap hy with g | ⟨rfl, rfl⟩
  · have := dt_gl g
    rw [dt_up_n (by omega), dt_up_k (by omega)]
    exact h3 i y g
  · rw [dt_up_n (by omega), dt_up_s]
theorem s_X12_began {ex : List dt_Shp} {σ : dt_Mem} {l : List Int} {x : Int} (hT : rTrace σ l) (hl : l.length < 16) (hx : dt_in32 x) : dt_Sp mX12_began 0 0 0 [dt_R 40, dt_I x] (dt_SH ++ ex) σ (fun v sh2 σ2 => v = none ∧ sh2 = dt_SH ++ ex ∧ rW σ σ2 ∧ rTrace σ2 (l ++ [x])) := by
  refine dt_Sp_of (by decide) (Nat.le_of_ble_eq_true rfl) ?_
  refine dt_wfV fun hwf => ?_
  have h3 := hT.1
  show dt_V _ _ _ 0 0 0 [some (dt_R 40), some (dt_I x)] [] _ _
  refine dt_aloadn dX12_began_0 rfl rfl ?_
  refine dt_getI dX12_began_1 pg_X12_306_12 rfl rfl ?_
  refine dt_bipush dX12_began_4 (by decide) ?_
  refine dt_cm_ge (tgt := 29) dX12_began_6 (by decide) (by first | assumption | exact hwf _ _ | exact dt_b32 _ | omega | exact ⟨by omega, by omega⟩ | decide | exact ⟨by simp (disch := omega) only [dt_up_s, dt_up_k, dt_up_n]; omega, by simp (disch := omega) only [dt_up_s, dt_up_k, dt_up_n]; omega⟩) (by first | assumption | exact hwf _ _ | exact dt_b32 _ | omega | exact ⟨by omega, by omega⟩ | decide | exact ⟨by simp (disch := omega) only [dt_up_s, dt_up_k, dt_up_n]; omega, by simp (disch := omega) only [dt_up_s, dt_up_k, dt_up_n]; omega⟩) (fun c1 => ?_) (fun c1 => ?_)
  · skip
    first | exact absurd c1 (by omega) | exact absurd c1 (by decide) | exact absurd rfl c1
  · skip
    refine dt_aloadn dX12_began_9 rfl rfl ?_
    refine dt_getR dX12_began_10 pg_X12_50_12 rfl rfl ?_
    refine dt_aloadn dX12_began_13 rfl rfl ?_
    refine dt_getI dX12_began_14 pg_X12_306_12 rfl rfl ?_
    rw [h3]
    refine dt_iloadn dX12_began_17 rfl rfl ?_
    refine dt_wfV fun hwf => ?_
    refine dt_iast dX12_began_18 rfl (by first | omega | (simp (disch := omega) only [dt_up_s, dt_up_k, dt_up_n]; omega)) (by first | omega | (simp (disch := omega) only [dt_up_s, dt_up_k, dt_up_n]; omega)) (by decide) (by first | assumption | exact hwf _ _ | exact dt_b32 _ | omega | exact ⟨by omega, by omega⟩ | decide | exact ⟨by simp (disch := omega) only [dt_up_s, dt_up_k, dt_up_n]; omega, by simp (disch := omega) only [dt_up_s, dt_up_k, dt_up_n]; omega⟩) ?_
    rw [Int.toNat_natCast]
    refine dt_aloadn dX12_began_19 rfl rfl ?_
    refine dt_dupR dX12_began_20 ?_
    refine dt_getI dX12_began_21 pg_X12_306_12 rfl rfl ?_
    rw [dt_up_n (by omega), h3]
    refine dt_iconst dX12_began_24 ?_
    refine dt_iadd dX12_began_25 ?_
    refine dt_wfV fun hwf => ?_
    refine dt_putI dX12_began_26 pw_X12_306_12 rfl rfl (by first | assumption | exact hwf _ _ | exact dt_b32 _ | omega | exact ⟨by omega, by omega⟩ | decide | exact ⟨by simp (disch := omega) only [dt_up_s, dt_up_k, dt_up_n]; omega, by simp (disch := omega) only [dt_up_s, dt_up_k, dt_up_n]; omega⟩) ?_
    refine dt_vret dX12_began_29 rfl (by decide) (by decide) ?_
    exact ⟨rfl, rfl, fun b k a c => by rw [dt_up_ne (by omega), dt_up_n (by omega)], hT.app hl⟩
theorem s_X12_plainSize {ex : List dt_Shp} {σ : dt_Mem} {X : dX} {t w : Nat} {wd : Nat × List Nat} {l : List Int} (hX : rX σ X) (hw : xW X t w wd) (hT : rTrace σ l) (hl : l.length ≤ 8) : dt_Sp mX12_plainSize 1 0 0 [dt_R 40, dt_I (t : Int), dt_I (w : Int)] (dt_SH ++ ex) σ (fun v sh2 σ2 => v = some (dt_I ((wd.2.length : Nat) : Int)) ∧ sh2 = dt_SH ++ ex ∧ rW σ σ2 ∧ rTrace σ2 (l ++ [10])) := by
  refine dt_Sp_of (by decide) (Nat.le_of_ble_eq_true rfl) ?_
  refine dt_wfV fun hwf => ?_
  obtain ⟨⟨k0, k1, k2, k3⟩, k4, k5, k6⟩ := hX.wd hw
  have k7 := k3.1
  have k8 := k3.2.1
  have k9 := k3.2.2.1
  have k10 := k3.2.2.2.1
  have hcl := xCom_lt wd.2
  have G0 := rW.refl σ
  have hT0 := hT
  show dt_V _ _ _ 0 0 0 [some (dt_R 40), some (dt_I (t : Int)), some (dt_I (w : Int))] [] _ _
  refine dt_aloadn dX12_plainSize_0 rfl rfl ?_
  refine dt_bipush dX12_plainSize_1 (by decide) ?_
  refine dt_xV dX12_plainSize_3 pc_X12_309 rfl (s_X12_began hT (by first | omega | (simp only [List.length_append, List.length_cons, List.length_nil]; omega)) (by decide)) rfl rfl ⟨by decide, by decide⟩ rfl rfl (Nat.le_of_ble_eq_true rfl) ⟨by decide, by decide⟩ ?_
  intro va sha σa hqa
  obtain ⟨rfl, hsa, hfa, hTa⟩ := hqa
  obtain rfl := hsa.symm
  refine dt_aloadn dX12_plainSize_6 rfl rfl ?_
  refine dt_iloadn dX12_plainSize_7 rfl rfl ?_
  refine dt_iloadn dX12_plainSize_8 rfl rfl ?_
  refine dt_xV dX12_plainSize_9 pc_X12_197 rfl (s_X12_readings (hfa.X hX) hw) rfl rfl ⟨by decide, by decide⟩ rfl rfl (Nat.le_of_ble_eq_true rfl) ⟨by decide, by decide⟩ (dt_k3 ?_)
  refine dt_iret dX12_plainSize_12 rfl (by decide) (by decide) ?_
  exact ⟨rfl, rfl, hfa, hTa⟩
theorem s_X12_markOf {ex : List dt_Shp} {σ : dt_Mem} {X : dX} {t w : Nat} {wd : Nat × List Nat} {l : List Int} (hX : rX σ X) (hw : xW X t w wd) (hT : rTrace σ l) (hl : l.length ≤ 8) : dt_Sp mX12_markOf 2 0 0 [dt_R 40, dt_I (t : Int), dt_I (w : Int)] (dt_SH ++ ex) σ (fun v sh2 σ2 => v = some (dt_I (mkV wd.1 w (xCom wd.2))) ∧ sh2 = dt_SH ++ ex ∧ rW σ σ2 ∧ rTrace σ2 (l ++ mkT wd.1)) := by
  refine dt_Sp_of (by decide) (Nat.le_of_ble_eq_true rfl) ?_
  refine dt_wfV fun hwf => ?_
  obtain ⟨⟨k0, k1, k2, k3⟩, k4, k5, k6⟩ := hX.wd hw
  have k7 := k3.1
  have k8 := k3.2.1
  have k9 := k3.2.2.1
  have k10 := k3.2.2.2.1
  have hcl := xCom_lt wd.2
  have G0 := rW.refl σ
  have hT0 := hT
  show dt_V _ _ _ 0 0 0 [some (dt_R 40), some (dt_I (t : Int)), some (dt_I (w : Int)), none, none] [] _ _
  refine dt_aloadn dX12_markOf_0 rfl rfl ?_
  refine dt_iloadn dX12_markOf_1 rfl rfl ?_
  refine dt_iloadn dX12_markOf_2 rfl rfl ?_
  refine dt_xV dX12_markOf_3 pc_X12_300 rfl (s_X12_kindOf hX hw) rfl rfl ⟨by decide, by decide⟩ rfl rfl (Nat.le_of_ble_eq_true rfl) ⟨by decide, by decide⟩ (dt_k3 ?_)
  refine dt_istoren dX12_markOf_6 rfl (by decide) rfl ?_
  dsimp only [List.set]
  refine dt_iloadn dX12_markOf_7 rfl rfl ?_
  refine dt_iconst dX12_markOf_8 ?_
  refine dt_cm_lt (tgt := 33) dX12_markOf_9 (by decide) (by first | assumption | exact hwf _ _ | exact dt_b32 _ | omega | exact ⟨by omega, by omega⟩ | decide | exact ⟨by simp (disch := omega) only [dt_up_s, dt_up_k, dt_up_n]; omega, by simp (disch := omega) only [dt_up_s, dt_up_k, dt_up_n]; omega⟩) (by first | assumption | exact hwf _ _ | exact dt_b32 _ | omega | exact ⟨by omega, by omega⟩ | decide | exact ⟨by simp (disch := omega) only [dt_up_s, dt_up_k, dt_up_n]; omega, by simp (disch := omega) only [dt_up_s, dt_up_k, dt_up_n]; omega⟩) (fun c1 => ?_) (fun c1 => ?_)
  · skip
    refine dt_iloadn dX12_markOf_33 rfl rfl ?_
    refine dt_iconst dX12_markOf_34 ?_
    refine dt_cm_ne (tgt := 44) dX12_markOf_35 (by decide) (by first | assumption | exact hwf _ _ | exact dt_b32 _ | omega | exact ⟨by omega, by omega⟩ | decide | exact ⟨by simp (disch := omega) only [dt_up_s, dt_up_k, dt_up_n]; omega, by simp (disch := omega) only [dt_up_s, dt_up_k, dt_up_n]; omega⟩) (by first | assumption | exact hwf _ _ | exact dt_b32 _ | omega | exact ⟨by omega, by omega⟩ | decide | exact ⟨by simp (disch := omega) only [dt_up_s, dt_up_k, dt_up_n]; omega, by simp (disch := omega) only [dt_up_s, dt_up_k, dt_up_n]; omega⟩) (fun c2 => ?_) (fun c2 => ?_)
    · skip
      refine dt_iloadn dX12_markOf_44 rfl rfl ?_
      refine dt_iconst dX12_markOf_45 ?_
      refine dt_cm_eq (tgt := 55) dX12_markOf_46 (by decide) (by first | assumption | exact hwf _ _ | exact dt_b32 _ | omega | exact ⟨by omega, by omega⟩ | decide | exact ⟨by simp (disch := omega) only [dt_up_s, dt_up_k, dt_up_n]; omega, by simp (disch := omega) only [dt_up_s, dt_up_k, dt_up_n]; omega⟩) (by first | assumption | exact hwf _ _ | exact dt_b32 _ | omega | exact ⟨by omega, by omega⟩ | decide | exact ⟨by simp (disch := omega) only [dt_up_s, dt_up_k, dt_up_n]; omega, by simp (disch := omega) only [dt_up_s, dt_up_k, dt_up_n]; omega⟩) (fun c3 => ?_) (fun c3 => ?_)
      · skip
        refine dt_aloadn dX12_markOf_55 rfl rfl ?_
        refine dt_bipush dX12_markOf_56 (by decide) ?_
        refine dt_xV dX12_markOf_58 pc_X12_309 rfl (s_X12_began hT0 (by first | omega | (simp only [List.length_append, List.length_cons, List.length_nil]; omega)) (by decide)) rfl rfl ⟨by decide, by decide⟩ rfl rfl (Nat.le_of_ble_eq_true rfl) ⟨by decide, by decide⟩ ?_
        intro v58 sh58 σ58 hq58
        obtain ⟨rfl, hs58, hf58, hT58⟩ := hq58
        obtain rfl := hs58.symm
        have G58 := G0.tr hf58
        refine dt_aloadn dX12_markOf_61 rfl rfl ?_
        refine dt_bipush dX12_markOf_62 (by decide) ?_
        refine dt_xV dX12_markOf_64 pc_X12_309 rfl (s_X12_began hT58 (by first | omega | (simp only [List.length_append, List.length_cons, List.length_nil]; omega)) (by decide)) rfl rfl ⟨by decide, by decide⟩ rfl rfl (Nat.le_of_ble_eq_true rfl) ⟨by decide, by decide⟩ ?_
        intro v64 sh64 σ64 hq64
        obtain ⟨rfl, hs64, hf64, hT64⟩ := hq64
        obtain rfl := hs64.symm
        have G64 := G58.tr hf64
        refine dt_iloadn dX12_markOf_67 rfl rfl ?_
        refine dt_aloadn dX12_markOf_68 rfl rfl ?_
        refine dt_iloadn dX12_markOf_69 rfl rfl ?_
        refine dt_iloadn dX12_markOf_70 rfl rfl ?_
        refine dt_iconst dX12_markOf_71 ?_
        have hl1 : wd.2.length = 1 := k3.2.2.2.2.1 (by omega)
        obtain ⟨r, hr⟩ := dt_lg (l := wd.2) (i := 0) (by omega)
        have hr8 := (k3.2.2.2.2.2 r (List.mem_of_getElem? hr)).2
        have hcr : xCom wd.2 = r := xCom_1 hl1 hr hr8
        rw [show (0 : Int) = ((0 : Nat) : Int) from rfl]
        refine dt_xV dX12_markOf_72 pc_X12_200 rfl (s_X12_reading (G64.X hX) hw hr) rfl rfl ⟨by decide, by decide⟩ rfl rfl (Nat.le_of_ble_eq_true rfl) ⟨by decide, by decide⟩ (dt_k3 ?_)
        rw [← hcr]
        refine dt_iadd dX12_markOf_75 ?_
        refine dt_iloadn dX12_markOf_76 rfl rfl ?_
        refine dt_iconst dX12_markOf_77 ?_
        refine dt_cm_ne (tgt := 85) dX12_markOf_78 (by decide) (by first | assumption | exact hwf _ _ | exact dt_b32 _ | omega | exact ⟨by omega, by omega⟩ | decide | exact ⟨by simp (disch := omega) only [dt_up_s, dt_up_k, dt_up_n]; omega, by simp (disch := omega) only [dt_up_s, dt_up_k, dt_up_n]; omega⟩) (by first | assumption | exact hwf _ _ | exact dt_b32 _ | omega | exact ⟨by omega, by omega⟩ | decide | exact ⟨by simp (disch := omega) only [dt_up_s, dt_up_k, dt_up_n]; omega, by simp (disch := omega) only [dt_up_s, dt_up_k, dt_up_n]; omega⟩) (fun c4 => ?_) (fun c4 => ?_)
        · skip
          refine dt_sipush dX12_markOf_85 (by decide) ?_
          refine dt_iadd dX12_markOf_88 ?_
          refine dt_istore dX12_markOf_89 (by decide) rfl ?_
          dsimp only [List.set]
          refine dt_iloadn dX12_markOf_91 rfl rfl ?_
          refine dt_iconst dX12_markOf_92 ?_
          refine dt_cm_ne (tgt := 103) dX12_markOf_93 (by decide) (by first | assumption | exact hwf _ _ | exact dt_b32 _ | omega | exact ⟨by omega, by omega⟩ | decide | exact ⟨by simp (disch := omega) only [dt_up_s, dt_up_k, dt_up_n]; omega, by simp (disch := omega) only [dt_up_s, dt_up_k, dt_up_n]; omega⟩) (by first | assumption | exact hwf _ _ | exact dt_b32 _ | omega | exact ⟨by omega, by omega⟩ | decide | exact ⟨by simp (disch := omega) only [dt_up_s, dt_up_k, dt_up_n]; omega, by simp (disch := omega) only [dt_up_s, dt_up_k, dt_up_n]; omega⟩) (fun c5 => ?_) (fun c5 => ?_)
          · skip
            refine dt_iload dX12_markOf_103 rfl ?_
            refine dt_iret dX12_markOf_105 rfl (by decide) (by decide) ?_
            first
            | (exfalso; omega)
            | (refine ⟨dt_ie ?_, rfl, G64, ?_⟩
               · unfold mkV
                 repeat (first | rw [if_pos (by omega)] | rw [if_neg (by omega)])
                 try (first | rfl | omega)
               · have e2 : rTrace σ64 (l ++ mkT wd.1) := by
                   unfold mkT
                   repeat (first | rw [if_pos (by omega)] | rw [if_neg (by omega)])
                   have z := hT64
                   simp only [List.append_assoc, List.cons_append, List.nil_append] at z
                   exact z
                 exact e2)
          · skip
            refine dt_iconst dX12_markOf_96 ?_
            refine dt_iload dX12_markOf_97 rfl ?_
            refine dt_imul dX12_markOf_99 ?_
            refine dt_goto (tgt := 105) dX12_markOf_100 (by decide) ?_
            refine dt_iret dX12_markOf_105 rfl (by decide) (by decide) ?_
            first
            | (exfalso; omega)
            | (refine ⟨dt_ie ?_, rfl, G64, ?_⟩
               · unfold mkV
                 repeat (first | rw [if_pos (by omega)] | rw [if_neg (by omega)])
                 try (first | rfl | omega)
               · have e2 : rTrace σ64 (l ++ mkT wd.1) := by
                   unfold mkT
                   repeat (first | rw [if_pos (by omega)] | rw [if_neg (by omega)])
                   have z := hT64
                   simp only [List.append_assoc, List.cons_append, List.nil_append] at z
                   exact z
                 exact e2)
        · skip
          refine dt_iconst dX12_markOf_81 ?_
          refine dt_goto (tgt := 88) dX12_markOf_82 (by decide) ?_
          refine dt_iadd dX12_markOf_88 ?_
          refine dt_istore dX12_markOf_89 (by decide) rfl ?_
          dsimp only [List.set]
          refine dt_iloadn dX12_markOf_91 rfl rfl ?_
          refine dt_iconst dX12_markOf_92 ?_
          refine dt_cm_ne (tgt := 103) dX12_markOf_93 (by decide) (by first | assumption | exact hwf _ _ | exact dt_b32 _ | omega | exact ⟨by omega, by omega⟩ | decide | exact ⟨by simp (disch := omega) only [dt_up_s, dt_up_k, dt_up_n]; omega, by simp (disch := omega) only [dt_up_s, dt_up_k, dt_up_n]; omega⟩) (by first | assumption | exact hwf _ _ | exact dt_b32 _ | omega | exact ⟨by omega, by omega⟩ | decide | exact ⟨by simp (disch := omega) only [dt_up_s, dt_up_k, dt_up_n]; omega, by simp (disch := omega) only [dt_up_s, dt_up_k, dt_up_n]; omega⟩) (fun c6 => ?_) (fun c6 => ?_)
          · skip
            refine dt_iload dX12_markOf_103 rfl ?_
            refine dt_iret dX12_markOf_105 rfl (by decide) (by decide) ?_
            first
            | (exfalso; omega)
            | (refine ⟨dt_ie ?_, rfl, G64, ?_⟩
               · unfold mkV
                 repeat (first | rw [if_pos (by omega)] | rw [if_neg (by omega)])
                 try (first | rfl | omega)
               · have e2 : rTrace σ64 (l ++ mkT wd.1) := by
                   unfold mkT
                   repeat (first | rw [if_pos (by omega)] | rw [if_neg (by omega)])
                   have z := hT64
                   simp only [List.append_assoc, List.cons_append, List.nil_append] at z
                   exact z
                 exact e2)
          · skip
            refine dt_iconst dX12_markOf_96 ?_
            refine dt_iload dX12_markOf_97 rfl ?_
            refine dt_imul dX12_markOf_99 ?_
            refine dt_goto (tgt := 105) dX12_markOf_100 (by decide) ?_
            refine dt_iret dX12_markOf_105 rfl (by decide) (by decide) ?_
            first
            | (exfalso; omega)
            | (refine ⟨dt_ie ?_, rfl, G64, ?_⟩
               · unfold mkV
                 repeat (first | rw [if_pos (by omega)] | rw [if_neg (by omega)])
                 try (first | rfl | omega)
               · have e2 : rTrace σ64 (l ++ mkT wd.1) := by
                   unfold mkT
                   repeat (first | rw [if_pos (by omega)] | rw [if_neg (by omega)])
                   have z := hT64
                   simp only [List.append_assoc, List.cons_append, List.nil_append] at z
                   exact z
                 exact e2)
      · skip
        refine dt_aloadn dX12_markOf_49 rfl rfl ?_
        refine dt_bipush dX12_markOf_50 (by decide) ?_
        refine dt_xV dX12_markOf_52 pc_X12_309 rfl (s_X12_began hT0 (by first | omega | (simp only [List.length_append, List.length_cons, List.length_nil]; omega)) (by decide)) rfl rfl ⟨by decide, by decide⟩ rfl rfl (Nat.le_of_ble_eq_true rfl) ⟨by decide, by decide⟩ ?_
        intro v52 sh52 σ52 hq52
        obtain ⟨rfl, hs52, hf52, hT52⟩ := hq52
        obtain rfl := hs52.symm
        have G52 := G0.tr hf52
        refine dt_aloadn dX12_markOf_55 rfl rfl ?_
        refine dt_bipush dX12_markOf_56 (by decide) ?_
        refine dt_xV dX12_markOf_58 pc_X12_309 rfl (s_X12_began hT52 (by first | omega | (simp only [List.length_append, List.length_cons, List.length_nil]; omega)) (by decide)) rfl rfl ⟨by decide, by decide⟩ rfl rfl (Nat.le_of_ble_eq_true rfl) ⟨by decide, by decide⟩ ?_
        intro v58 sh58 σ58 hq58
        obtain ⟨rfl, hs58, hf58, hT58⟩ := hq58
        obtain rfl := hs58.symm
        have G58 := G52.tr hf58
        refine dt_aloadn dX12_markOf_61 rfl rfl ?_
        refine dt_bipush dX12_markOf_62 (by decide) ?_
        refine dt_xV dX12_markOf_64 pc_X12_309 rfl (s_X12_began hT58 (by first | omega | (simp only [List.length_append, List.length_cons, List.length_nil]; omega)) (by decide)) rfl rfl ⟨by decide, by decide⟩ rfl rfl (Nat.le_of_ble_eq_true rfl) ⟨by decide, by decide⟩ ?_
        intro v64 sh64 σ64 hq64
        obtain ⟨rfl, hs64, hf64, hT64⟩ := hq64
        obtain rfl := hs64.symm
        have G64 := G58.tr hf64
        refine dt_iloadn dX12_markOf_67 rfl rfl ?_
        refine dt_aloadn dX12_markOf_68 rfl rfl ?_
        refine dt_iloadn dX12_markOf_69 rfl rfl ?_
        refine dt_iloadn dX12_markOf_70 rfl rfl ?_
        refine dt_iconst dX12_markOf_71 ?_
        have hl1 : wd.2.length = 1 := k3.2.2.2.2.1 (by omega)
        obtain ⟨r, hr⟩ := dt_lg (l := wd.2) (i := 0) (by omega)
        have hr8 := (k3.2.2.2.2.2 r (List.mem_of_getElem? hr)).2
        have hcr : xCom wd.2 = r := xCom_1 hl1 hr hr8
        rw [show (0 : Int) = ((0 : Nat) : Int) from rfl]
        refine dt_xV dX12_markOf_72 pc_X12_200 rfl (s_X12_reading (G64.X hX) hw hr) rfl rfl ⟨by decide, by decide⟩ rfl rfl (Nat.le_of_ble_eq_true rfl) ⟨by decide, by decide⟩ (dt_k3 ?_)
        rw [← hcr]
        refine dt_iadd dX12_markOf_75 ?_
        refine dt_iloadn dX12_markOf_76 rfl rfl ?_
        refine dt_iconst dX12_markOf_77 ?_
        refine dt_cm_ne (tgt := 85) dX12_markOf_78 (by decide) (by first | assumption | exact hwf _ _ | exact dt_b32 _ | omega | exact ⟨by omega, by omega⟩ | decide | exact ⟨by simp (disch := omega) only [dt_up_s, dt_up_k, dt_up_n]; omega, by simp (disch := omega) only [dt_up_s, dt_up_k, dt_up_n]; omega⟩) (by first | assumption | exact hwf _ _ | exact dt_b32 _ | omega | exact ⟨by omega, by omega⟩ | decide | exact ⟨by simp (disch := omega) only [dt_up_s, dt_up_k, dt_up_n]; omega, by simp (disch := omega) only [dt_up_s, dt_up_k, dt_up_n]; omega⟩) (fun c7 => ?_) (fun c7 => ?_)
        · skip
          refine dt_sipush dX12_markOf_85 (by decide) ?_
          refine dt_iadd dX12_markOf_88 ?_
          refine dt_istore dX12_markOf_89 (by decide) rfl ?_
          dsimp only [List.set]
          refine dt_iloadn dX12_markOf_91 rfl rfl ?_
          refine dt_iconst dX12_markOf_92 ?_
          refine dt_cm_ne (tgt := 103) dX12_markOf_93 (by decide) (by first | assumption | exact hwf _ _ | exact dt_b32 _ | omega | exact ⟨by omega, by omega⟩ | decide | exact ⟨by simp (disch := omega) only [dt_up_s, dt_up_k, dt_up_n]; omega, by simp (disch := omega) only [dt_up_s, dt_up_k, dt_up_n]; omega⟩) (by first | assumption | exact hwf _ _ | exact dt_b32 _ | omega | exact ⟨by omega, by omega⟩ | decide | exact ⟨by simp (disch := omega) only [dt_up_s, dt_up_k, dt_up_n]; omega, by simp (disch := omega) only [dt_up_s, dt_up_k, dt_up_n]; omega⟩) (fun c8 => ?_) (fun c8 => ?_)
          · skip
            refine dt_iload dX12_markOf_103 rfl ?_
            refine dt_iret dX12_markOf_105 rfl (by decide) (by decide) ?_
            first
            | (exfalso; omega)
            | (refine ⟨dt_ie ?_, rfl, G64, ?_⟩
               · unfold mkV
                 repeat (first | rw [if_pos (by omega)] | rw [if_neg (by omega)])
                 try (first | rfl | omega)
               · have e2 : rTrace σ64 (l ++ mkT wd.1) := by
                   unfold mkT
                   repeat (first | rw [if_pos (by omega)] | rw [if_neg (by omega)])
                   have z := hT64
                   simp only [List.append_assoc, List.cons_append, List.nil_append] at z
                   exact z
                 exact e2)
          · skip
            refine dt_iconst dX12_markOf_96 ?_
            refine dt_iload dX12_markOf_97 rfl ?_
            refine dt_imul dX12_markOf_99 ?_
            refine dt_goto (tgt := 105) dX12_markOf_100 (by decide) ?_
            refine dt_iret dX12_markOf_105 rfl (by decide) (by decide) ?_
            first
            | (exfalso; omega)
            | (refine ⟨dt_ie ?_, rfl, G64, ?_⟩
               · unfold mkV
                 repeat (first | rw [if_pos (by omega)] | rw [if_neg (by omega)])
                 try (first | rfl | omega)
               · have e2 : rTrace σ64 (l ++ mkT wd.1) := by
                   unfold mkT
                   repeat (first | rw [if_pos (by omega)] | rw [if_neg (by omega)])
                   have z := hT64
                   simp only [List.append_assoc, List.cons_append, List.nil_append] at z
                   exact z
                 exact e2)
        · skip
          refine dt_iconst dX12_markOf_81 ?_
          refine dt_goto (tgt := 88) dX12_markOf_82 (by decide) ?_
          refine dt_iadd dX12_markOf_88 ?_
          refine dt_istore dX12_markOf_89 (by decide) rfl ?_
          dsimp only [List.set]
          refine dt_iloadn dX12_markOf_91 rfl rfl ?_
          refine dt_iconst dX12_markOf_92 ?_
          refine dt_cm_ne (tgt := 103) dX12_markOf_93 (by decide) (by first | assumption | exact hwf _ _ | exact dt_b32 _ | omega | exact ⟨by omega, by omega⟩ | decide | exact ⟨by simp (disch := omega) only [dt_up_s, dt_up_k, dt_up_n]; omega, by simp (disch := omega) only [dt_up_s, dt_up_k, dt_up_n]; omega⟩) (by first | assumption | exact hwf _ _ | exact dt_b32 _ | omega | exact ⟨by omega, by omega⟩ | decide | exact ⟨by simp (disch := omega) only [dt_up_s, dt_up_k, dt_up_n]; omega, by simp (disch := omega) only [dt_up_s, dt_up_k, dt_up_n]; omega⟩) (fun c9 => ?_) (fun c9 => ?_)
          · skip
            refine dt_iload dX12_markOf_103 rfl ?_
            refine dt_iret dX12_markOf_105 rfl (by decide) (by decide) ?_
            first
            | (exfalso; omega)
            | (refine ⟨dt_ie ?_, rfl, G64, ?_⟩
               · unfold mkV
                 repeat (first | rw [if_pos (by omega)] | rw [if_neg (by omega)])
                 try (first | rfl | omega)
               · have e2 : rTrace σ64 (l ++ mkT wd.1) := by
                   unfold mkT
                   repeat (first | rw [if_pos (by omega)] | rw [if_neg (by omega)])
                   have z := hT64
                   simp only [List.append_assoc, List.cons_append, List.nil_append] at z
                   exact z
                 exact e2)
          · skip
            refine dt_iconst dX12_markOf_96 ?_
            refine dt_iload dX12_markOf_97 rfl ?_
            refine dt_imul dX12_markOf_99 ?_
            refine dt_goto (tgt := 105) dX12_markOf_100 (by decide) ?_
            refine dt_iret dX12_markOf_105 rfl (by decide) (by decide) ?_
            first
            | (exfalso; omega)
            | (refine ⟨dt_ie ?_, rfl, G64, ?_⟩
               · unfold mkV
                 repeat (first | rw [if_pos (by omega)] | rw [if_neg (by omega)])
                 try (first | rfl | omega)
               · have e2 : rTrace σ64 (l ++ mkT wd.1) := by
                   unfold mkT
                   repeat (first | rw [if_pos (by omega)] | rw [if_neg (by omega)])
                   have z := hT64
                   simp only [List.append_assoc, List.cons_append, List.nil_append] at z
                   exact z
                 exact e2)
    · skip
      refine dt_aloadn dX12_markOf_38 rfl rfl ?_
      refine dt_bipush dX12_markOf_39 (by decide) ?_
      refine dt_xV dX12_markOf_41 pc_X12_309 rfl (s_X12_began hT0 (by first | omega | (simp only [List.length_append, List.length_cons, List.length_nil]; omega)) (by decide)) rfl rfl ⟨by decide, by decide⟩ rfl rfl (Nat.le_of_ble_eq_true rfl) ⟨by decide, by decide⟩ ?_
      intro v41 sh41 σ41 hq41
      obtain ⟨rfl, hs41, hf41, hT41⟩ := hq41
      obtain rfl := hs41.symm
      have G41 := G0.tr hf41
      refine dt_iloadn dX12_markOf_44 rfl rfl ?_
      refine dt_iconst dX12_markOf_45 ?_
      refine dt_cm_eq (tgt := 55) dX12_markOf_46 (by decide) (by first | assumption | exact hwf _ _ | exact dt_b32 _ | omega | exact ⟨by omega, by omega⟩ | decide | exact ⟨by simp (disch := omega) only [dt_up_s, dt_up_k, dt_up_n]; omega, by simp (disch := omega) only [dt_up_s, dt_up_k, dt_up_n]; omega⟩) (by first | assumption | exact hwf _ _ | exact dt_b32 _ | omega | exact ⟨by omega, by omega⟩ | decide | exact ⟨by simp (disch := omega) only [dt_up_s, dt_up_k, dt_up_n]; omega, by simp (disch := omega) only [dt_up_s, dt_up_k, dt_up_n]; omega⟩) (fun c10 => ?_) (fun c10 => ?_)
      · skip
        refine dt_aloadn dX12_markOf_55 rfl rfl ?_
        refine dt_bipush dX12_markOf_56 (by decide) ?_
        refine dt_xV dX12_markOf_58 pc_X12_309 rfl (s_X12_began hT41 (by first | omega | (simp only [List.length_append, List.length_cons, List.length_nil]; omega)) (by decide)) rfl rfl ⟨by decide, by decide⟩ rfl rfl (Nat.le_of_ble_eq_true rfl) ⟨by decide, by decide⟩ ?_
        intro v58 sh58 σ58 hq58
        obtain ⟨rfl, hs58, hf58, hT58⟩ := hq58
        obtain rfl := hs58.symm
        have G58 := G41.tr hf58
        refine dt_aloadn dX12_markOf_61 rfl rfl ?_
        refine dt_bipush dX12_markOf_62 (by decide) ?_
        refine dt_xV dX12_markOf_64 pc_X12_309 rfl (s_X12_began hT58 (by first | omega | (simp only [List.length_append, List.length_cons, List.length_nil]; omega)) (by decide)) rfl rfl ⟨by decide, by decide⟩ rfl rfl (Nat.le_of_ble_eq_true rfl) ⟨by decide, by decide⟩ ?_
        intro v64 sh64 σ64 hq64
        obtain ⟨rfl, hs64, hf64, hT64⟩ := hq64
        obtain rfl := hs64.symm
        have G64 := G58.tr hf64
        refine dt_iloadn dX12_markOf_67 rfl rfl ?_
        refine dt_aloadn dX12_markOf_68 rfl rfl ?_
        refine dt_iloadn dX12_markOf_69 rfl rfl ?_
        refine dt_iloadn dX12_markOf_70 rfl rfl ?_
        refine dt_iconst dX12_markOf_71 ?_
        have hl1 : wd.2.length = 1 := k3.2.2.2.2.1 (by omega)
        obtain ⟨r, hr⟩ := dt_lg (l := wd.2) (i := 0) (by omega)
        have hr8 := (k3.2.2.2.2.2 r (List.mem_of_getElem? hr)).2
        have hcr : xCom wd.2 = r := xCom_1 hl1 hr hr8
        rw [show (0 : Int) = ((0 : Nat) : Int) from rfl]
        refine dt_xV dX12_markOf_72 pc_X12_200 rfl (s_X12_reading (G64.X hX) hw hr) rfl rfl ⟨by decide, by decide⟩ rfl rfl (Nat.le_of_ble_eq_true rfl) ⟨by decide, by decide⟩ (dt_k3 ?_)
        rw [← hcr]
        refine dt_iadd dX12_markOf_75 ?_
        refine dt_iloadn dX12_markOf_76 rfl rfl ?_
        refine dt_iconst dX12_markOf_77 ?_
        refine dt_cm_ne (tgt := 85) dX12_markOf_78 (by decide) (by first | assumption | exact hwf _ _ | exact dt_b32 _ | omega | exact ⟨by omega, by omega⟩ | decide | exact ⟨by simp (disch := omega) only [dt_up_s, dt_up_k, dt_up_n]; omega, by simp (disch := omega) only [dt_up_s, dt_up_k, dt_up_n]; omega⟩) (by first | assumption | exact hwf _ _ | exact dt_b32 _ | omega | exact ⟨by omega, by omega⟩ | decide | exact ⟨by simp (disch := omega) only [dt_up_s, dt_up_k, dt_up_n]; omega, by simp (disch := omega) only [dt_up_s, dt_up_k, dt_up_n]; omega⟩) (fun c11 => ?_) (fun c11 => ?_)
        · skip
          refine dt_sipush dX12_markOf_85 (by decide) ?_
          refine dt_iadd dX12_markOf_88 ?_
          refine dt_istore dX12_markOf_89 (by decide) rfl ?_
          dsimp only [List.set]
          refine dt_iloadn dX12_markOf_91 rfl rfl ?_
          refine dt_iconst dX12_markOf_92 ?_
          refine dt_cm_ne (tgt := 103) dX12_markOf_93 (by decide) (by first | assumption | exact hwf _ _ | exact dt_b32 _ | omega | exact ⟨by omega, by omega⟩ | decide | exact ⟨by simp (disch := omega) only [dt_up_s, dt_up_k, dt_up_n]; omega, by simp (disch := omega) only [dt_up_s, dt_up_k, dt_up_n]; omega⟩) (by first | assumption | exact hwf _ _ | exact dt_b32 _ | omega | exact ⟨by omega, by omega⟩ | decide | exact ⟨by simp (disch := omega) only [dt_up_s, dt_up_k, dt_up_n]; omega, by simp (disch := omega) only [dt_up_s, dt_up_k, dt_up_n]; omega⟩) (fun c12 => ?_) (fun c12 => ?_)
          · skip
            refine dt_iload dX12_markOf_103 rfl ?_
            refine dt_iret dX12_markOf_105 rfl (by decide) (by decide) ?_
            first
            | (exfalso; omega)
            | (refine ⟨dt_ie ?_, rfl, G64, ?_⟩
               · unfold mkV
                 repeat (first | rw [if_pos (by omega)] | rw [if_neg (by omega)])
                 try (first | rfl | omega)
               · have e2 : rTrace σ64 (l ++ mkT wd.1) := by
                   unfold mkT
                   repeat (first | rw [if_pos (by omega)] | rw [if_neg (by omega)])
                   have z := hT64
                   simp only [List.append_assoc, List.cons_append, List.nil_append] at z
                   exact z
                 exact e2)
          · skip
            refine dt_iconst dX12_markOf_96 ?_
            refine dt_iload dX12_markOf_97 rfl ?_
            refine dt_imul dX12_markOf_99 ?_
            refine dt_goto (tgt := 105) dX12_markOf_100 (by decide) ?_
            refine dt_iret dX12_markOf_105 rfl (by decide) (by decide) ?_
            first
            | (exfalso; omega)
            | (refine ⟨dt_ie ?_, rfl, G64, ?_⟩
               · unfold mkV
                 repeat (first | rw [if_pos (by omega)] | rw [if_neg (by omega)])
                 try (first | rfl | omega)
               · have e2 : rTrace σ64 (l ++ mkT wd.1) := by
                   unfold mkT
                   repeat (first | rw [if_pos (by omega)] | rw [if_neg (by omega)])
                   have z := hT64
                   simp only [List.append_assoc, List.cons_append, List.nil_append] at z
                   exact z
                 exact e2)
        · skip
          refine dt_iconst dX12_markOf_81 ?_
          refine dt_goto (tgt := 88) dX12_markOf_82 (by decide) ?_
          refine dt_iadd dX12_markOf_88 ?_
          refine dt_istore dX12_markOf_89 (by decide) rfl ?_
          dsimp only [List.set]
          refine dt_iloadn dX12_markOf_91 rfl rfl ?_
          refine dt_iconst dX12_markOf_92 ?_
          refine dt_cm_ne (tgt := 103) dX12_markOf_93 (by decide) (by first | assumption | exact hwf _ _ | exact dt_b32 _ | omega | exact ⟨by omega, by omega⟩ | decide | exact ⟨by simp (disch := omega) only [dt_up_s, dt_up_k, dt_up_n]; omega, by simp (disch := omega) only [dt_up_s, dt_up_k, dt_up_n]; omega⟩) (by first | assumption | exact hwf _ _ | exact dt_b32 _ | omega | exact ⟨by omega, by omega⟩ | decide | exact ⟨by simp (disch := omega) only [dt_up_s, dt_up_k, dt_up_n]; omega, by simp (disch := omega) only [dt_up_s, dt_up_k, dt_up_n]; omega⟩) (fun c13 => ?_) (fun c13 => ?_)
          · skip
            refine dt_iload dX12_markOf_103 rfl ?_
            refine dt_iret dX12_markOf_105 rfl (by decide) (by decide) ?_
            first
            | (exfalso; omega)
            | (refine ⟨dt_ie ?_, rfl, G64, ?_⟩
               · unfold mkV
                 repeat (first | rw [if_pos (by omega)] | rw [if_neg (by omega)])
                 try (first | rfl | omega)
               · have e2 : rTrace σ64 (l ++ mkT wd.1) := by
                   unfold mkT
                   repeat (first | rw [if_pos (by omega)] | rw [if_neg (by omega)])
                   have z := hT64
                   simp only [List.append_assoc, List.cons_append, List.nil_append] at z
                   exact z
                 exact e2)
          · skip
            refine dt_iconst dX12_markOf_96 ?_
            refine dt_iload dX12_markOf_97 rfl ?_
            refine dt_imul dX12_markOf_99 ?_
            refine dt_goto (tgt := 105) dX12_markOf_100 (by decide) ?_
            refine dt_iret dX12_markOf_105 rfl (by decide) (by decide) ?_
            first
            | (exfalso; omega)
            | (refine ⟨dt_ie ?_, rfl, G64, ?_⟩
               · unfold mkV
                 repeat (first | rw [if_pos (by omega)] | rw [if_neg (by omega)])
                 try (first | rfl | omega)
               · have e2 : rTrace σ64 (l ++ mkT wd.1) := by
                   unfold mkT
                   repeat (first | rw [if_pos (by omega)] | rw [if_neg (by omega)])
                   have z := hT64
                   simp only [List.append_assoc, List.cons_append, List.nil_append] at z
                   exact z
                 exact e2)
      · skip
        refine dt_aloadn dX12_markOf_49 rfl rfl ?_
        refine dt_bipush dX12_markOf_50 (by decide) ?_
        refine dt_xV dX12_markOf_52 pc_X12_309 rfl (s_X12_began hT41 (by first | omega | (simp only [List.length_append, List.length_cons, List.length_nil]; omega)) (by decide)) rfl rfl ⟨by decide, by decide⟩ rfl rfl (Nat.le_of_ble_eq_true rfl) ⟨by decide, by decide⟩ ?_
        intro v52 sh52 σ52 hq52
        obtain ⟨rfl, hs52, hf52, hT52⟩ := hq52
        obtain rfl := hs52.symm
        have G52 := G41.tr hf52
        refine dt_aloadn dX12_markOf_55 rfl rfl ?_
        refine dt_bipush dX12_markOf_56 (by decide) ?_
        refine dt_xV dX12_markOf_58 pc_X12_309 rfl (s_X12_began hT52 (by first | omega | (simp only [List.length_append, List.length_cons, List.length_nil]; omega)) (by decide)) rfl rfl ⟨by decide, by decide⟩ rfl rfl (Nat.le_of_ble_eq_true rfl) ⟨by decide, by decide⟩ ?_
        intro v58 sh58 σ58 hq58
        obtain ⟨rfl, hs58, hf58, hT58⟩ := hq58
        obtain rfl := hs58.symm
        have G58 := G52.tr hf58
        refine dt_aloadn dX12_markOf_61 rfl rfl ?_
        refine dt_bipush dX12_markOf_62 (by decide) ?_
        refine dt_xV dX12_markOf_64 pc_X12_309 rfl (s_X12_began hT58 (by first | omega | (simp only [List.length_append, List.length_cons, List.length_nil]; omega)) (by decide)) rfl rfl ⟨by decide, by decide⟩ rfl rfl (Nat.le_of_ble_eq_true rfl) ⟨by decide, by decide⟩ ?_
        intro v64 sh64 σ64 hq64
        obtain ⟨rfl, hs64, hf64, hT64⟩ := hq64
        obtain rfl := hs64.symm
        have G64 := G58.tr hf64
        refine dt_iloadn dX12_markOf_67 rfl rfl ?_
        refine dt_aloadn dX12_markOf_68 rfl rfl ?_
        refine dt_iloadn dX12_markOf_69 rfl rfl ?_
        refine dt_iloadn dX12_markOf_70 rfl rfl ?_
        refine dt_iconst dX12_markOf_71 ?_
        have hl1 : wd.2.length = 1 := k3.2.2.2.2.1 (by omega)
        obtain ⟨r, hr⟩ := dt_lg (l := wd.2) (i := 0) (by omega)
        have hr8 := (k3.2.2.2.2.2 r (List.mem_of_getElem? hr)).2
        have hcr : xCom wd.2 = r := xCom_1 hl1 hr hr8
        rw [show (0 : Int) = ((0 : Nat) : Int) from rfl]
        refine dt_xV dX12_markOf_72 pc_X12_200 rfl (s_X12_reading (G64.X hX) hw hr) rfl rfl ⟨by decide, by decide⟩ rfl rfl (Nat.le_of_ble_eq_true rfl) ⟨by decide, by decide⟩ (dt_k3 ?_)
        rw [← hcr]
        refine dt_iadd dX12_markOf_75 ?_
        refine dt_iloadn dX12_markOf_76 rfl rfl ?_
        refine dt_iconst dX12_markOf_77 ?_
        refine dt_cm_ne (tgt := 85) dX12_markOf_78 (by decide) (by first | assumption | exact hwf _ _ | exact dt_b32 _ | omega | exact ⟨by omega, by omega⟩ | decide | exact ⟨by simp (disch := omega) only [dt_up_s, dt_up_k, dt_up_n]; omega, by simp (disch := omega) only [dt_up_s, dt_up_k, dt_up_n]; omega⟩) (by first | assumption | exact hwf _ _ | exact dt_b32 _ | omega | exact ⟨by omega, by omega⟩ | decide | exact ⟨by simp (disch := omega) only [dt_up_s, dt_up_k, dt_up_n]; omega, by simp (disch := omega) only [dt_up_s, dt_up_k, dt_up_n]; omega⟩) (fun c14 => ?_) (fun c14 => ?_)
        · skip
          refine dt_sipush dX12_markOf_85 (by decide) ?_
          refine dt_iadd dX12_markOf_88 ?_
          refine dt_istore dX12_markOf_89 (by decide) rfl ?_
          dsimp only [List.set]
          refine dt_iloadn dX12_markOf_91 rfl rfl ?_
          refine dt_iconst dX12_markOf_92 ?_
          refine dt_cm_ne (tgt := 103) dX12_markOf_93 (by decide) (by first | assumption | exact hwf _ _ | exact dt_b32 _ | omega | exact ⟨by omega, by omega⟩ | decide | exact ⟨by simp (disch := omega) only [dt_up_s, dt_up_k, dt_up_n]; omega, by simp (disch := omega) only [dt_up_s, dt_up_k, dt_up_n]; omega⟩) (by first | assumption | exact hwf _ _ | exact dt_b32 _ | omega | exact ⟨by omega, by omega⟩ | decide | exact ⟨by simp (disch := omega) only [dt_up_s, dt_up_k, dt_up_n]; omega, by simp (disch := omega) only [dt_up_s, dt_up_k, dt_up_n]; omega⟩) (fun c15 => ?_) (fun c15 => ?_)
          · skip
            refine dt_iload dX12_markOf_103 rfl ?_
            refine dt_iret dX12_markOf_105 rfl (by decide) (by decide) ?_
            first
            | (exfalso; omega)
            | (refine ⟨dt_ie ?_, rfl, G64, ?_⟩
               · unfold mkV
                 repeat (first | rw [if_pos (by omega)] | rw [if_neg (by omega)])
                 try (first | rfl | omega)
               · have e2 : rTrace σ64 (l ++ mkT wd.1) := by
                   unfold mkT
                   repeat (first | rw [if_pos (by omega)] | rw [if_neg (by omega)])
                   have z := hT64
                   simp only [List.append_assoc, List.cons_append, List.nil_append] at z
                   exact z
                 exact e2)
          · skip
            refine dt_iconst dX12_markOf_96 ?_
            refine dt_iload dX12_markOf_97 rfl ?_
            refine dt_imul dX12_markOf_99 ?_
            refine dt_goto (tgt := 105) dX12_markOf_100 (by decide) ?_
            refine dt_iret dX12_markOf_105 rfl (by decide) (by decide) ?_
            first
            | (exfalso; omega)
            | (refine ⟨dt_ie ?_, rfl, G64, ?_⟩
               · unfold mkV
                 repeat (first | rw [if_pos (by omega)] | rw [if_neg (by omega)])
                 try (first | rfl | omega)
               · have e2 : rTrace σ64 (l ++ mkT wd.1) := by
                   unfold mkT
                   repeat (first | rw [if_pos (by omega)] | rw [if_neg (by omega)])
                   have z := hT64
                   simp only [List.append_assoc, List.cons_append, List.nil_append] at z
                   exact z
                 exact e2)
        · skip
          refine dt_iconst dX12_markOf_81 ?_
          refine dt_goto (tgt := 88) dX12_markOf_82 (by decide) ?_
          refine dt_iadd dX12_markOf_88 ?_
          refine dt_istore dX12_markOf_89 (by decide) rfl ?_
          dsimp only [List.set]
          refine dt_iloadn dX12_markOf_91 rfl rfl ?_
          refine dt_iconst dX12_markOf_92 ?_
          refine dt_cm_ne (tgt := 103) dX12_markOf_93 (by decide) (by first | assumption | exact hwf _ _ | exact dt_b32 _ | omega | exact ⟨by omega, by omega⟩ | decide | exact ⟨by simp (disch := omega) only [dt_up_s, dt_up_k, dt_up_n]; omega, by simp (disch := omega) only [dt_up_s, dt_up_k, dt_up_n]; omega⟩) (by first | assumption | exact hwf _ _ | exact dt_b32 _ | omega | exact ⟨by omega, by omega⟩ | decide | exact ⟨by simp (disch := omega) only [dt_up_s, dt_up_k, dt_up_n]; omega, by simp (disch := omega) only [dt_up_s, dt_up_k, dt_up_n]; omega⟩) (fun c16 => ?_) (fun c16 => ?_)
          · skip
            refine dt_iload dX12_markOf_103 rfl ?_
            refine dt_iret dX12_markOf_105 rfl (by decide) (by decide) ?_
            first
            | (exfalso; omega)
            | (refine ⟨dt_ie ?_, rfl, G64, ?_⟩
               · unfold mkV
                 repeat (first | rw [if_pos (by omega)] | rw [if_neg (by omega)])
                 try (first | rfl | omega)
               · have e2 : rTrace σ64 (l ++ mkT wd.1) := by
                   unfold mkT
                   repeat (first | rw [if_pos (by omega)] | rw [if_neg (by omega)])
                   have z := hT64
                   simp only [List.append_assoc, List.cons_append, List.nil_append] at z
                   exact z
                 exact e2)
          · skip
            refine dt_iconst dX12_markOf_96 ?_
            refine dt_iload dX12_markOf_97 rfl ?_
            refine dt_imul dX12_markOf_99 ?_
            refine dt_goto (tgt := 105) dX12_markOf_100 (by decide) ?_
            refine dt_iret dX12_markOf_105 rfl (by decide) (by decide) ?_
            first
            | (exfalso; omega)
            | (refine ⟨dt_ie ?_, rfl, G64, ?_⟩
               · unfold mkV
                 repeat (first | rw [if_pos (by omega)] | rw [if_neg (by omega)])
                 try (first | rfl | omega)
               · have e2 : rTrace σ64 (l ++ mkT wd.1) := by
                   unfold mkT
                   repeat (first | rw [if_pos (by omega)] | rw [if_neg (by omega)])
                   have z := hT64
                   simp only [List.append_assoc, List.cons_append, List.nil_append] at z
                   exact z
                 exact e2)
  · skip
    refine dt_aloadn dX12_markOf_12 rfl rfl ?_
    refine dt_bipush dX12_markOf_13 (by decide) ?_
    refine dt_xV dX12_markOf_15 pc_X12_309 rfl (s_X12_began hT0 (by first | omega | (simp only [List.length_append, List.length_cons, List.length_nil]; omega)) (by decide)) rfl rfl ⟨by decide, by decide⟩ rfl rfl (Nat.le_of_ble_eq_true rfl) ⟨by decide, by decide⟩ ?_
    intro v15 sh15 σ15 hq15
    obtain ⟨rfl, hs15, hf15, hT15⟩ := hq15
    obtain rfl := hs15.symm
    have G15 := G0.tr hf15
    refine dt_aloadn dX12_markOf_18 rfl rfl ?_
    refine dt_bipush dX12_markOf_19 (by decide) ?_
    refine dt_xV dX12_markOf_21 pc_X12_309 rfl (s_X12_began hT15 (by first | omega | (simp only [List.length_append, List.length_cons, List.length_nil]; omega)) (by decide)) rfl rfl ⟨by decide, by decide⟩ rfl rfl (Nat.le_of_ble_eq_true rfl) ⟨by decide, by decide⟩ ?_
    intro v21 sh21 σ21 hq21
    obtain ⟨rfl, hs21, hf21, hT21⟩ := hq21
    obtain rfl := hs21.symm
    have G21 := G15.tr hf21
    refine dt_iloadn dX12_markOf_24 rfl rfl ?_
    refine dt_aloadn dX12_markOf_25 rfl rfl ?_
    refine dt_iloadn dX12_markOf_26 rfl rfl ?_
    refine dt_iloadn dX12_markOf_27 rfl rfl ?_
    refine dt_xV dX12_markOf_28 pc_X12_249 rfl (s_X12_common (G21.X hX) hw) rfl rfl ⟨by decide, by decide⟩ rfl rfl (Nat.le_of_ble_eq_true rfl) ⟨by decide, by decide⟩ (dt_k3 ?_)
    refine dt_isub dX12_markOf_31 ?_
    refine dt_iret dX12_markOf_32 rfl (by decide) (by decide) ?_
    first
    | (exfalso; omega)
    | (refine ⟨dt_ie ?_, rfl, G21, ?_⟩
       · unfold mkV
         repeat (first | rw [if_pos (by omega)] | rw [if_neg (by omega)])
         try (first | rfl | omega)
       · have e2 : rTrace σ21 (l ++ mkT wd.1) := by
           unfold mkT
           repeat (first | rw [if_pos (by omega)] | rw [if_neg (by omega)])
           have z := hT21
           simp only [List.append_assoc, List.cons_append, List.nil_append] at z
           exact z
         exact e2)
theorem s_X12_sizeOf {ex : List dt_Shp} {σ : dt_Mem} {X : dX} {t w : Nat} {wd : Nat × List Nat}  (hX : rX σ X) (hw : xW X t w wd) (hT : rTrace σ []) : dt_Sp mX12_sizeOf 3 0 0 [dt_R 40, dt_I (t : Int), dt_I (w : Int)] (dt_SH ++ ex) σ (fun v sh2 σ2 => v = some (dt_I (szV wd.1 wd.2.length w (xCom wd.2))) ∧ sh2 = dt_SH ++ ex ∧ rW σ σ2 ∧ rTrace σ2 (szT wd.1)) := by
  refine dt_Sp_of (by decide) (Nat.le_of_ble_eq_true rfl) ?_
  refine dt_wfV fun hwf => ?_
  obtain ⟨⟨k0, k1, k2, k3⟩, k4, k5, k6⟩ := hX.wd hw
  have k7 := k3.1
  have k8 := k3.2.1
  have k9 := k3.2.2.1
  have k10 := k3.2.2.2.1
  have hcl := xCom_lt wd.2
  have G0 := rW.refl σ
  have hT0 := hT
  show dt_V _ _ _ 0 0 0 [some (dt_R 40), some (dt_I (t : Int)), some (dt_I (w : Int)), none, none, none] [] _ _
  refine dt_aloadn dX12_sizeOf_0 rfl rfl ?_
  refine dt_iloadn dX12_sizeOf_1 rfl rfl ?_
  refine dt_iloadn dX12_sizeOf_2 rfl rfl ?_
  refine dt_xV dX12_sizeOf_3 pc_X12_300 rfl (s_X12_kindOf hX hw) rfl rfl ⟨by decide, by decide⟩ rfl rfl (Nat.le_of_ble_eq_true rfl) ⟨by decide, by decide⟩ (dt_k3 ?_)
  refine dt_istoren dX12_sizeOf_6 rfl (by decide) rfl ?_
  dsimp only [List.set]
  refine dt_iloadn dX12_sizeOf_7 rfl rfl ?_
  refine dt_iconst dX12_sizeOf_8 ?_
  refine dt_cm_eq (tgt := 17) dX12_sizeOf_9 (by decide) (by first | assumption | exact hwf _ _ | exact dt_b32 _ | omega | exact ⟨by omega, by omega⟩ | decide | exact ⟨by simp (disch := omega) only [dt_up_s, dt_up_k, dt_up_n]; omega, by simp (disch := omega) only [dt_up_s, dt_up_k, dt_up_n]; omega⟩) (by first | assumption | exact hwf _ _ | exact dt_b32 _ | omega | exact ⟨by omega, by omega⟩ | decide | exact ⟨by simp (disch := omega) only [dt_up_s, dt_up_k, dt_up_n]; omega, by simp (disch := omega) only [dt_up_s, dt_up_k, dt_up_n]; omega⟩) (fun c1 => ?_) (fun c1 => ?_)
  · skip
    refine dt_aloadn dX12_sizeOf_17 rfl rfl ?_
    refine dt_iloadn dX12_sizeOf_18 rfl rfl ?_
    refine dt_iconst dX12_sizeOf_19 ?_
    refine dt_cm_ne (tgt := 28) dX12_sizeOf_20 (by decide) (by first | assumption | exact hwf _ _ | exact dt_b32 _ | omega | exact ⟨by omega, by omega⟩ | decide | exact ⟨by simp (disch := omega) only [dt_up_s, dt_up_k, dt_up_n]; omega, by simp (disch := omega) only [dt_up_s, dt_up_k, dt_up_n]; omega⟩) (by first | assumption | exact hwf _ _ | exact dt_b32 _ | omega | exact ⟨by omega, by omega⟩ | decide | exact ⟨by simp (disch := omega) only [dt_up_s, dt_up_k, dt_up_n]; omega, by simp (disch := omega) only [dt_up_s, dt_up_k, dt_up_n]; omega⟩) (fun c2 => ?_) (fun c2 => ?_)
    · skip
      refine dt_bipush dX12_sizeOf_28 (by decide) ?_
      refine dt_xV dX12_sizeOf_30 pc_X12_309 rfl (s_X12_began hT0 (by first | omega | (simp only [List.length_append, List.length_cons, List.length_nil]; omega)) (by decide)) rfl rfl ⟨by decide, by decide⟩ rfl rfl (Nat.le_of_ble_eq_true rfl) ⟨by decide, by decide⟩ ?_
      intro v30 sh30 σ30 hq30
      obtain ⟨rfl, hs30, hf30, hT30⟩ := hq30
      obtain rfl := hs30.symm
      have G30 := G0.tr hf30
      refine dt_aloadn dX12_sizeOf_33 rfl rfl ?_
      refine dt_iloadn dX12_sizeOf_34 rfl rfl ?_
      refine dt_iconst dX12_sizeOf_35 ?_
      refine dt_cm_ge (tgt := 44) dX12_sizeOf_36 (by decide) (by first | assumption | exact hwf _ _ | exact dt_b32 _ | omega | exact ⟨by omega, by omega⟩ | decide | exact ⟨by simp (disch := omega) only [dt_up_s, dt_up_k, dt_up_n]; omega, by simp (disch := omega) only [dt_up_s, dt_up_k, dt_up_n]; omega⟩) (by first | assumption | exact hwf _ _ | exact dt_b32 _ | omega | exact ⟨by omega, by omega⟩ | decide | exact ⟨by simp (disch := omega) only [dt_up_s, dt_up_k, dt_up_n]; omega, by simp (disch := omega) only [dt_up_s, dt_up_k, dt_up_n]; omega⟩) (fun c3 => ?_) (fun c3 => ?_)
      · skip
        refine dt_bipush dX12_sizeOf_44 (by decide) ?_
        refine dt_xV dX12_sizeOf_46 pc_X12_309 rfl (s_X12_began hT30 (by first | omega | (simp only [List.length_append, List.length_cons, List.length_nil]; omega)) (by decide)) rfl rfl ⟨by decide, by decide⟩ rfl rfl (Nat.le_of_ble_eq_true rfl) ⟨by decide, by decide⟩ ?_
        intro v46 sh46 σ46 hq46
        obtain ⟨rfl, hs46, hf46, hT46⟩ := hq46
        obtain rfl := hs46.symm
        have G46 := G30.tr hf46
        refine dt_aloadn dX12_sizeOf_49 rfl rfl ?_
        refine dt_iloadn dX12_sizeOf_50 rfl rfl ?_
        refine dt_iloadn dX12_sizeOf_51 rfl rfl ?_
        refine dt_xV dX12_sizeOf_52 pc_X12_312 rfl (s_X12_plainSize (G46.X hX) hw hT46 (by first | omega | (simp only [List.length_append, List.length_cons, List.length_nil]; omega))) rfl rfl ⟨by decide, by decide⟩ rfl rfl (Nat.le_of_ble_eq_true rfl) ⟨by decide, by decide⟩ ?_
        intro vp shp σp hqp
        obtain ⟨rfl, hsp, hfp, hTp⟩ := hqp
        obtain rfl := hsp.symm
        have Gp := G46.tr hfp
        refine dt_istore dX12_sizeOf_55 (by decide) rfl ?_
        dsimp only [List.set]
        refine dt_aloadn dX12_sizeOf_57 rfl rfl ?_
        refine dt_iloadn dX12_sizeOf_58 rfl rfl ?_
        refine dt_iloadn dX12_sizeOf_59 rfl rfl ?_
        refine dt_xV dX12_sizeOf_60 pc_X12_315 rfl (s_X12_markOf (Gp.X hX) hw hTp (by first | omega | (simp only [List.length_append, List.length_cons, List.length_nil]; omega))) rfl rfl ⟨by decide, by decide⟩ rfl rfl (Nat.le_of_ble_eq_true rfl) ⟨by decide, by decide⟩ ?_
        intro vq shq σq hqq
        obtain ⟨rfl, hsq, hfq, hTq⟩ := hqq
        obtain rfl := hsq.symm
        have Gq := Gp.tr hfq
        refine dt_istore dX12_sizeOf_63 (by decide) rfl ?_
        dsimp only [List.set]
        refine dt_iloadn dX12_sizeOf_65 rfl rfl ?_
        refine dt_iconst dX12_sizeOf_66 ?_
        refine dt_cm_ne (tgt := 79) dX12_sizeOf_67 (by decide) (by first | assumption | exact hwf _ _ | exact dt_b32 _ | omega | exact ⟨by omega, by omega⟩ | decide | exact ⟨by simp (disch := omega) only [dt_up_s, dt_up_k, dt_up_n]; omega, by simp (disch := omega) only [dt_up_s, dt_up_k, dt_up_n]; omega⟩) (by first | assumption | exact hwf _ _ | exact dt_b32 _ | omega | exact ⟨by omega, by omega⟩ | decide | exact ⟨by simp (disch := omega) only [dt_up_s, dt_up_k, dt_up_n]; omega, by simp (disch := omega) only [dt_up_s, dt_up_k, dt_up_n]; omega⟩) (fun c4 => ?_) (fun c4 => ?_)
        · skip
          refine dt_iloadn dX12_sizeOf_79 rfl rfl ?_
          refine dt_iconst dX12_sizeOf_80 ?_
          refine dt_cm_ge (tgt := 92) dX12_sizeOf_81 (by decide) (by first | assumption | exact hwf _ _ | exact dt_b32 _ | omega | exact ⟨by omega, by omega⟩ | decide | exact ⟨by simp (disch := omega) only [dt_up_s, dt_up_k, dt_up_n]; omega, by simp (disch := omega) only [dt_up_s, dt_up_k, dt_up_n]; omega⟩) (by first | assumption | exact hwf _ _ | exact dt_b32 _ | omega | exact ⟨by omega, by omega⟩ | decide | exact ⟨by simp (disch := omega) only [dt_up_s, dt_up_k, dt_up_n]; omega, by simp (disch := omega) only [dt_up_s, dt_up_k, dt_up_n]; omega⟩) (fun c5 => ?_) (fun c5 => ?_)
          · skip
            refine dt_iloadn dX12_sizeOf_92 rfl rfl ?_
            refine dt_iconst dX12_sizeOf_93 ?_
            refine dt_cm_ne (tgt := 105) dX12_sizeOf_94 (by decide) (by first | assumption | exact hwf _ _ | exact dt_b32 _ | omega | exact ⟨by omega, by omega⟩ | decide | exact ⟨by simp (disch := omega) only [dt_up_s, dt_up_k, dt_up_n]; omega, by simp (disch := omega) only [dt_up_s, dt_up_k, dt_up_n]; omega⟩) (by first | assumption | exact hwf _ _ | exact dt_b32 _ | omega | exact ⟨by omega, by omega⟩ | decide | exact ⟨by simp (disch := omega) only [dt_up_s, dt_up_k, dt_up_n]; omega, by simp (disch := omega) only [dt_up_s, dt_up_k, dt_up_n]; omega⟩) (fun c6 => ?_) (fun c6 => ?_)
            · skip
              refine dt_iconst dX12_sizeOf_105 ?_
              refine dt_iload dX12_sizeOf_106 rfl ?_
              refine dt_iload dX12_sizeOf_108 rfl ?_
              refine dt_isub dX12_sizeOf_110 ?_
              refine dt_imul dX12_sizeOf_111 ?_
              refine dt_iret dX12_sizeOf_112 rfl (by decide) (by decide) ?_
              first
              | (exfalso; omega)
              | (refine ⟨dt_ie ?_, rfl, Gq, ?_⟩
                 · unfold szV
                   repeat (first | rw [if_pos (by omega)] | rw [if_neg (by omega)])
                   try (first | rfl | omega)
                 · have e2 : rTrace σq (szT wd.1) := by
                     unfold szT
                     repeat (first | rw [if_pos (by omega)] | rw [if_neg (by omega)])
                     have z := hTq
                     simp only [List.append_assoc, List.cons_append, List.nil_append] at z ⊢
                     exact z
                   exact e2)
            · skip
              refine dt_iload dX12_sizeOf_97 rfl ?_
              refine dt_iload dX12_sizeOf_99 rfl ?_
              refine dt_isub dX12_sizeOf_101 ?_
              refine dt_goto (tgt := 112) dX12_sizeOf_102 (by decide) ?_
              refine dt_iret dX12_sizeOf_112 rfl (by decide) (by decide) ?_
              first
              | (exfalso; omega)
              | (refine ⟨dt_ie ?_, rfl, Gq, ?_⟩
                 · unfold szV
                   repeat (first | rw [if_pos (by omega)] | rw [if_neg (by omega)])
                   try (first | rfl | omega)
                 · have e2 : rTrace σq (szT wd.1) := by
                     unfold szT
                     repeat (first | rw [if_pos (by omega)] | rw [if_neg (by omega)])
                     have z := hTq
                     simp only [List.append_assoc, List.cons_append, List.nil_append] at z ⊢
                     exact z
                   exact e2)
          · skip
            refine dt_iload dX12_sizeOf_84 rfl ?_
            refine dt_iload dX12_sizeOf_86 rfl ?_
            refine dt_iadd dX12_sizeOf_88 ?_
            refine dt_goto (tgt := 112) dX12_sizeOf_89 (by decide) ?_
            refine dt_iret dX12_sizeOf_112 rfl (by decide) (by decide) ?_
            first
            | (exfalso; omega)
            | (refine ⟨dt_ie ?_, rfl, Gq, ?_⟩
               · unfold szV
                 repeat (first | rw [if_pos (by omega)] | rw [if_neg (by omega)])
                 try (first | rfl | omega)
               · have e2 : rTrace σq (szT wd.1) := by
                   unfold szT
                   repeat (first | rw [if_pos (by omega)] | rw [if_neg (by omega)])
                   have z := hTq
                   simp only [List.append_assoc, List.cons_append, List.nil_append] at z ⊢
                   exact z
                 exact e2)
        · skip
          refine dt_iload dX12_sizeOf_70 rfl ?_
          refine dt_uineg dX12_sizeOf_72 ?_
          refine dt_iload dX12_sizeOf_73 rfl ?_
          refine dt_isub dX12_sizeOf_75 ?_
          refine dt_goto (tgt := 112) dX12_sizeOf_76 (by decide) ?_
          refine dt_iret dX12_sizeOf_112 rfl (by decide) (by decide) ?_
          first
          | (exfalso; omega)
          | (refine ⟨dt_ie ?_, rfl, Gq, ?_⟩
             · unfold szV
               repeat (first | rw [if_pos (by omega)] | rw [if_neg (by omega)])
               try (first | rfl | omega)
             · have e2 : rTrace σq (szT wd.1) := by
                 unfold szT
                 repeat (first | rw [if_pos (by omega)] | rw [if_neg (by omega)])
                 have z := hTq
                 simp only [List.append_assoc, List.cons_append, List.nil_append] at z ⊢
                 exact z
               exact e2)
      · skip
        refine dt_bipush dX12_sizeOf_39 (by decide) ?_
        refine dt_goto (tgt := 46) dX12_sizeOf_41 (by decide) ?_
        refine dt_xV dX12_sizeOf_46 pc_X12_309 rfl (s_X12_began hT30 (by first | omega | (simp only [List.length_append, List.length_cons, List.length_nil]; omega)) (by decide)) rfl rfl ⟨by decide, by decide⟩ rfl rfl (Nat.le_of_ble_eq_true rfl) ⟨by decide, by decide⟩ ?_
        intro v46 sh46 σ46 hq46
        obtain ⟨rfl, hs46, hf46, hT46⟩ := hq46
        obtain rfl := hs46.symm
        have G46 := G30.tr hf46
        refine dt_aloadn dX12_sizeOf_49 rfl rfl ?_
        refine dt_iloadn dX12_sizeOf_50 rfl rfl ?_
        refine dt_iloadn dX12_sizeOf_51 rfl rfl ?_
        refine dt_xV dX12_sizeOf_52 pc_X12_312 rfl (s_X12_plainSize (G46.X hX) hw hT46 (by first | omega | (simp only [List.length_append, List.length_cons, List.length_nil]; omega))) rfl rfl ⟨by decide, by decide⟩ rfl rfl (Nat.le_of_ble_eq_true rfl) ⟨by decide, by decide⟩ ?_
        intro vp shp σp hqp
        obtain ⟨rfl, hsp, hfp, hTp⟩ := hqp
        obtain rfl := hsp.symm
        have Gp := G46.tr hfp
        refine dt_istore dX12_sizeOf_55 (by decide) rfl ?_
        dsimp only [List.set]
        refine dt_aloadn dX12_sizeOf_57 rfl rfl ?_
        refine dt_iloadn dX12_sizeOf_58 rfl rfl ?_
        refine dt_iloadn dX12_sizeOf_59 rfl rfl ?_
        refine dt_xV dX12_sizeOf_60 pc_X12_315 rfl (s_X12_markOf (Gp.X hX) hw hTp (by first | omega | (simp only [List.length_append, List.length_cons, List.length_nil]; omega))) rfl rfl ⟨by decide, by decide⟩ rfl rfl (Nat.le_of_ble_eq_true rfl) ⟨by decide, by decide⟩ ?_
        intro vq shq σq hqq
        obtain ⟨rfl, hsq, hfq, hTq⟩ := hqq
        obtain rfl := hsq.symm
        have Gq := Gp.tr hfq
        refine dt_istore dX12_sizeOf_63 (by decide) rfl ?_
        dsimp only [List.set]
        refine dt_iloadn dX12_sizeOf_65 rfl rfl ?_
        refine dt_iconst dX12_sizeOf_66 ?_
        refine dt_cm_ne (tgt := 79) dX12_sizeOf_67 (by decide) (by first | assumption | exact hwf _ _ | exact dt_b32 _ | omega | exact ⟨by omega, by omega⟩ | decide | exact ⟨by simp (disch := omega) only [dt_up_s, dt_up_k, dt_up_n]; omega, by simp (disch := omega) only [dt_up_s, dt_up_k, dt_up_n]; omega⟩) (by first | assumption | exact hwf _ _ | exact dt_b32 _ | omega | exact ⟨by omega, by omega⟩ | decide | exact ⟨by simp (disch := omega) only [dt_up_s, dt_up_k, dt_up_n]; omega, by simp (disch := omega) only [dt_up_s, dt_up_k, dt_up_n]; omega⟩) (fun c7 => ?_) (fun c7 => ?_)
        · skip
          refine dt_iloadn dX12_sizeOf_79 rfl rfl ?_
          refine dt_iconst dX12_sizeOf_80 ?_
          refine dt_cm_ge (tgt := 92) dX12_sizeOf_81 (by decide) (by first | assumption | exact hwf _ _ | exact dt_b32 _ | omega | exact ⟨by omega, by omega⟩ | decide | exact ⟨by simp (disch := omega) only [dt_up_s, dt_up_k, dt_up_n]; omega, by simp (disch := omega) only [dt_up_s, dt_up_k, dt_up_n]; omega⟩) (by first | assumption | exact hwf _ _ | exact dt_b32 _ | omega | exact ⟨by omega, by omega⟩ | decide | exact ⟨by simp (disch := omega) only [dt_up_s, dt_up_k, dt_up_n]; omega, by simp (disch := omega) only [dt_up_s, dt_up_k, dt_up_n]; omega⟩) (fun c8 => ?_) (fun c8 => ?_)
          · skip
            refine dt_iloadn dX12_sizeOf_92 rfl rfl ?_
            refine dt_iconst dX12_sizeOf_93 ?_
            refine dt_cm_ne (tgt := 105) dX12_sizeOf_94 (by decide) (by first | assumption | exact hwf _ _ | exact dt_b32 _ | omega | exact ⟨by omega, by omega⟩ | decide | exact ⟨by simp (disch := omega) only [dt_up_s, dt_up_k, dt_up_n]; omega, by simp (disch := omega) only [dt_up_s, dt_up_k, dt_up_n]; omega⟩) (by first | assumption | exact hwf _ _ | exact dt_b32 _ | omega | exact ⟨by omega, by omega⟩ | decide | exact ⟨by simp (disch := omega) only [dt_up_s, dt_up_k, dt_up_n]; omega, by simp (disch := omega) only [dt_up_s, dt_up_k, dt_up_n]; omega⟩) (fun c9 => ?_) (fun c9 => ?_)
            · skip
              refine dt_iconst dX12_sizeOf_105 ?_
              refine dt_iload dX12_sizeOf_106 rfl ?_
              refine dt_iload dX12_sizeOf_108 rfl ?_
              refine dt_isub dX12_sizeOf_110 ?_
              refine dt_imul dX12_sizeOf_111 ?_
              refine dt_iret dX12_sizeOf_112 rfl (by decide) (by decide) ?_
              first
              | (exfalso; omega)
              | (refine ⟨dt_ie ?_, rfl, Gq, ?_⟩
                 · unfold szV
                   repeat (first | rw [if_pos (by omega)] | rw [if_neg (by omega)])
                   try (first | rfl | omega)
                 · have e2 : rTrace σq (szT wd.1) := by
                     unfold szT
                     repeat (first | rw [if_pos (by omega)] | rw [if_neg (by omega)])
                     have z := hTq
                     simp only [List.append_assoc, List.cons_append, List.nil_append] at z ⊢
                     exact z
                   exact e2)
            · skip
              refine dt_iload dX12_sizeOf_97 rfl ?_
              refine dt_iload dX12_sizeOf_99 rfl ?_
              refine dt_isub dX12_sizeOf_101 ?_
              refine dt_goto (tgt := 112) dX12_sizeOf_102 (by decide) ?_
              refine dt_iret dX12_sizeOf_112 rfl (by decide) (by decide) ?_
              first
              | (exfalso; omega)
              | (refine ⟨dt_ie ?_, rfl, Gq, ?_⟩
                 · unfold szV
                   repeat (first | rw [if_pos (by omega)] | rw [if_neg (by omega)])
                   try (first | rfl | omega)
                 · have e2 : rTrace σq (szT wd.1) := by
                     unfold szT
                     repeat (first | rw [if_pos (by omega)] | rw [if_neg (by omega)])
                     have z := hTq
                     simp only [List.append_assoc, List.cons_append, List.nil_append] at z ⊢
                     exact z
                   exact e2)
          · skip
            refine dt_iload dX12_sizeOf_84 rfl ?_
            refine dt_iload dX12_sizeOf_86 rfl ?_
            refine dt_iadd dX12_sizeOf_88 ?_
            refine dt_goto (tgt := 112) dX12_sizeOf_89 (by decide) ?_
            refine dt_iret dX12_sizeOf_112 rfl (by decide) (by decide) ?_
            first
            | (exfalso; omega)
            | (refine ⟨dt_ie ?_, rfl, Gq, ?_⟩
               · unfold szV
                 repeat (first | rw [if_pos (by omega)] | rw [if_neg (by omega)])
                 try (first | rfl | omega)
               · have e2 : rTrace σq (szT wd.1) := by
                   unfold szT
                   repeat (first | rw [if_pos (by omega)] | rw [if_neg (by omega)])
                   have z := hTq
                   simp only [List.append_assoc, List.cons_append, List.nil_append] at z ⊢
                   exact z
                 exact e2)
        · skip
          refine dt_iload dX12_sizeOf_70 rfl ?_
          refine dt_uineg dX12_sizeOf_72 ?_
          refine dt_iload dX12_sizeOf_73 rfl ?_
          refine dt_isub dX12_sizeOf_75 ?_
          refine dt_goto (tgt := 112) dX12_sizeOf_76 (by decide) ?_
          refine dt_iret dX12_sizeOf_112 rfl (by decide) (by decide) ?_
          first
          | (exfalso; omega)
          | (refine ⟨dt_ie ?_, rfl, Gq, ?_⟩
             · unfold szV
               repeat (first | rw [if_pos (by omega)] | rw [if_neg (by omega)])
               try (first | rfl | omega)
             · have e2 : rTrace σq (szT wd.1) := by
                 unfold szT
                 repeat (first | rw [if_pos (by omega)] | rw [if_neg (by omega)])
                 have z := hTq
                 simp only [List.append_assoc, List.cons_append, List.nil_append] at z ⊢
                 exact z
               exact e2)
    · skip
      refine dt_bipush dX12_sizeOf_23 (by decide) ?_
      refine dt_goto (tgt := 30) dX12_sizeOf_25 (by decide) ?_
      refine dt_xV dX12_sizeOf_30 pc_X12_309 rfl (s_X12_began hT0 (by first | omega | (simp only [List.length_append, List.length_cons, List.length_nil]; omega)) (by decide)) rfl rfl ⟨by decide, by decide⟩ rfl rfl (Nat.le_of_ble_eq_true rfl) ⟨by decide, by decide⟩ ?_
      intro v30 sh30 σ30 hq30
      obtain ⟨rfl, hs30, hf30, hT30⟩ := hq30
      obtain rfl := hs30.symm
      have G30 := G0.tr hf30
      refine dt_aloadn dX12_sizeOf_33 rfl rfl ?_
      refine dt_iloadn dX12_sizeOf_34 rfl rfl ?_
      refine dt_iconst dX12_sizeOf_35 ?_
      refine dt_cm_ge (tgt := 44) dX12_sizeOf_36 (by decide) (by first | assumption | exact hwf _ _ | exact dt_b32 _ | omega | exact ⟨by omega, by omega⟩ | decide | exact ⟨by simp (disch := omega) only [dt_up_s, dt_up_k, dt_up_n]; omega, by simp (disch := omega) only [dt_up_s, dt_up_k, dt_up_n]; omega⟩) (by first | assumption | exact hwf _ _ | exact dt_b32 _ | omega | exact ⟨by omega, by omega⟩ | decide | exact ⟨by simp (disch := omega) only [dt_up_s, dt_up_k, dt_up_n]; omega, by simp (disch := omega) only [dt_up_s, dt_up_k, dt_up_n]; omega⟩) (fun c10 => ?_) (fun c10 => ?_)
      · skip
        refine dt_bipush dX12_sizeOf_44 (by decide) ?_
        refine dt_xV dX12_sizeOf_46 pc_X12_309 rfl (s_X12_began hT30 (by first | omega | (simp only [List.length_append, List.length_cons, List.length_nil]; omega)) (by decide)) rfl rfl ⟨by decide, by decide⟩ rfl rfl (Nat.le_of_ble_eq_true rfl) ⟨by decide, by decide⟩ ?_
        intro v46 sh46 σ46 hq46
        obtain ⟨rfl, hs46, hf46, hT46⟩ := hq46
        obtain rfl := hs46.symm
        have G46 := G30.tr hf46
        refine dt_aloadn dX12_sizeOf_49 rfl rfl ?_
        refine dt_iloadn dX12_sizeOf_50 rfl rfl ?_
        refine dt_iloadn dX12_sizeOf_51 rfl rfl ?_
        refine dt_xV dX12_sizeOf_52 pc_X12_312 rfl (s_X12_plainSize (G46.X hX) hw hT46 (by first | omega | (simp only [List.length_append, List.length_cons, List.length_nil]; omega))) rfl rfl ⟨by decide, by decide⟩ rfl rfl (Nat.le_of_ble_eq_true rfl) ⟨by decide, by decide⟩ ?_
        intro vp shp σp hqp
        obtain ⟨rfl, hsp, hfp, hTp⟩ := hqp
        obtain rfl := hsp.symm
        have Gp := G46.tr hfp
        refine dt_istore dX12_sizeOf_55 (by decide) rfl ?_
        dsimp only [List.set]
        refine dt_aloadn dX12_sizeOf_57 rfl rfl ?_
        refine dt_iloadn dX12_sizeOf_58 rfl rfl ?_
        refine dt_iloadn dX12_sizeOf_59 rfl rfl ?_
        refine dt_xV dX12_sizeOf_60 pc_X12_315 rfl (s_X12_markOf (Gp.X hX) hw hTp (by first | omega | (simp only [List.length_append, List.length_cons, List.length_nil]; omega))) rfl rfl ⟨by decide, by decide⟩ rfl rfl (Nat.le_of_ble_eq_true rfl) ⟨by decide, by decide⟩ ?_
        intro vq shq σq hqq
        obtain ⟨rfl, hsq, hfq, hTq⟩ := hqq
        obtain rfl := hsq.symm
        have Gq := Gp.tr hfq
        refine dt_istore dX12_sizeOf_63 (by decide) rfl ?_
        dsimp only [List.set]
        refine dt_iloadn dX12_sizeOf_65 rfl rfl ?_
        refine dt_iconst dX12_sizeOf_66 ?_
        refine dt_cm_ne (tgt := 79) dX12_sizeOf_67 (by decide) (by first | assumption | exact hwf _ _ | exact dt_b32 _ | omega | exact ⟨by omega, by omega⟩ | decide | exact ⟨by simp (disch := omega) only [dt_up_s, dt_up_k, dt_up_n]; omega, by simp (disch := omega) only [dt_up_s, dt_up_k, dt_up_n]; omega⟩) (by first | assumption | exact hwf _ _ | exact dt_b32 _ | omega | exact ⟨by omega, by omega⟩ | decide | exact ⟨by simp (disch := omega) only [dt_up_s, dt_up_k, dt_up_n]; omega, by simp (disch := omega) only [dt_up_s, dt_up_k, dt_up_n]; omega⟩) (fun c11 => ?_) (fun c11 => ?_)
        · skip
          refine dt_iloadn dX12_sizeOf_79 rfl rfl ?_
          refine dt_iconst dX12_sizeOf_80 ?_
          refine dt_cm_ge (tgt := 92) dX12_sizeOf_81 (by decide) (by first | assumption | exact hwf _ _ | exact dt_b32 _ | omega | exact ⟨by omega, by omega⟩ | decide | exact ⟨by simp (disch := omega) only [dt_up_s, dt_up_k, dt_up_n]; omega, by simp (disch := omega) only [dt_up_s, dt_up_k, dt_up_n]; omega⟩) (by first | assumption | exact hwf _ _ | exact dt_b32 _ | omega | exact ⟨by omega, by omega⟩ | decide | exact ⟨by simp (disch := omega) only [dt_up_s, dt_up_k, dt_up_n]; omega, by simp (disch := omega) only [dt_up_s, dt_up_k, dt_up_n]; omega⟩) (fun c12 => ?_) (fun c12 => ?_)
          · skip
            refine dt_iloadn dX12_sizeOf_92 rfl rfl ?_
            refine dt_iconst dX12_sizeOf_93 ?_
            refine dt_cm_ne (tgt := 105) dX12_sizeOf_94 (by decide) (by first | assumption | exact hwf _ _ | exact dt_b32 _ | omega | exact ⟨by omega, by omega⟩ | decide | exact ⟨by simp (disch := omega) only [dt_up_s, dt_up_k, dt_up_n]; omega, by simp (disch := omega) only [dt_up_s, dt_up_k, dt_up_n]; omega⟩) (by first | assumption | exact hwf _ _ | exact dt_b32 _ | omega | exact ⟨by omega, by omega⟩ | decide | exact ⟨by simp (disch := omega) only [dt_up_s, dt_up_k, dt_up_n]; omega, by simp (disch := omega) only [dt_up_s, dt_up_k, dt_up_n]; omega⟩) (fun c13 => ?_) (fun c13 => ?_)
            · skip
              refine dt_iconst dX12_sizeOf_105 ?_
              refine dt_iload dX12_sizeOf_106 rfl ?_
              refine dt_iload dX12_sizeOf_108 rfl ?_
              refine dt_isub dX12_sizeOf_110 ?_
              refine dt_imul dX12_sizeOf_111 ?_
              refine dt_iret dX12_sizeOf_112 rfl (by decide) (by decide) ?_
              first
              | (exfalso; omega)
              | (refine ⟨dt_ie ?_, rfl, Gq, ?_⟩
                 · unfold szV
                   repeat (first | rw [if_pos (by omega)] | rw [if_neg (by omega)])
                   try (first | rfl | omega)
                 · have e2 : rTrace σq (szT wd.1) := by
                     unfold szT
                     repeat (first | rw [if_pos (by omega)] | rw [if_neg (by omega)])
                     have z := hTq
                     simp only [List.append_assoc, List.cons_append, List.nil_append] at z ⊢
                     exact z
                   exact e2)
            · skip
              refine dt_iload dX12_sizeOf_97 rfl ?_
              refine dt_iload dX12_sizeOf_99 rfl ?_
              refine dt_isub dX12_sizeOf_101 ?_
              refine dt_goto (tgt := 112) dX12_sizeOf_102 (by decide) ?_
              refine dt_iret dX12_sizeOf_112 rfl (by decide) (by decide) ?_
              first
              | (exfalso; omega)
              | (refine ⟨dt_ie ?_, rfl, Gq, ?_⟩
                 · unfold szV
                   repeat (first | rw [if_pos (by omega)] | rw [if_neg (by omega)])
                   try (first | rfl | omega)
                 · have e2 : rTrace σq (szT wd.1) := by
                     unfold szT
                     repeat (first | rw [if_pos (by omega)] | rw [if_neg (by omega)])
                     have z := hTq
                     simp only [List.append_assoc, List.cons_append, List.nil_append] at z ⊢
                     exact z
                   exact e2)
          · skip
            refine dt_iload dX12_sizeOf_84 rfl ?_
            refine dt_iload dX12_sizeOf_86 rfl ?_
            refine dt_iadd dX12_sizeOf_88 ?_
            refine dt_goto (tgt := 112) dX12_sizeOf_89 (by decide) ?_
            refine dt_iret dX12_sizeOf_112 rfl (by decide) (by decide) ?_
            first
            | (exfalso; omega)
            | (refine ⟨dt_ie ?_, rfl, Gq, ?_⟩
               · unfold szV
                 repeat (first | rw [if_pos (by omega)] | rw [if_neg (by omega)])
                 try (first | rfl | omega)
               · have e2 : rTrace σq (szT wd.1) := by
                   unfold szT
                   repeat (first | rw [if_pos (by omega)] | rw [if_neg (by omega)])
                   have z := hTq
                   simp only [List.append_assoc, List.cons_append, List.nil_append] at z ⊢
                   exact z
                 exact e2)
        · skip
          refine dt_iload dX12_sizeOf_70 rfl ?_
          refine dt_uineg dX12_sizeOf_72 ?_
          refine dt_iload dX12_sizeOf_73 rfl ?_
          refine dt_isub dX12_sizeOf_75 ?_
          refine dt_goto (tgt := 112) dX12_sizeOf_76 (by decide) ?_
          refine dt_iret dX12_sizeOf_112 rfl (by decide) (by decide) ?_
          first
          | (exfalso; omega)
          | (refine ⟨dt_ie ?_, rfl, Gq, ?_⟩
             · unfold szV
               repeat (first | rw [if_pos (by omega)] | rw [if_neg (by omega)])
               try (first | rfl | omega)
             · have e2 : rTrace σq (szT wd.1) := by
                 unfold szT
                 repeat (first | rw [if_pos (by omega)] | rw [if_neg (by omega)])
                 have z := hTq
                 simp only [List.append_assoc, List.cons_append, List.nil_append] at z ⊢
                 exact z
               exact e2)
      · skip
        refine dt_bipush dX12_sizeOf_39 (by decide) ?_
        refine dt_goto (tgt := 46) dX12_sizeOf_41 (by decide) ?_
        refine dt_xV dX12_sizeOf_46 pc_X12_309 rfl (s_X12_began hT30 (by first | omega | (simp only [List.length_append, List.length_cons, List.length_nil]; omega)) (by decide)) rfl rfl ⟨by decide, by decide⟩ rfl rfl (Nat.le_of_ble_eq_true rfl) ⟨by decide, by decide⟩ ?_
        intro v46 sh46 σ46 hq46
        obtain ⟨rfl, hs46, hf46, hT46⟩ := hq46
        obtain rfl := hs46.symm
        have G46 := G30.tr hf46
        refine dt_aloadn dX12_sizeOf_49 rfl rfl ?_
        refine dt_iloadn dX12_sizeOf_50 rfl rfl ?_
        refine dt_iloadn dX12_sizeOf_51 rfl rfl ?_
        refine dt_xV dX12_sizeOf_52 pc_X12_312 rfl (s_X12_plainSize (G46.X hX) hw hT46 (by first | omega | (simp only [List.length_append, List.length_cons, List.length_nil]; omega))) rfl rfl ⟨by decide, by decide⟩ rfl rfl (Nat.le_of_ble_eq_true rfl) ⟨by decide, by decide⟩ ?_
        intro vp shp σp hqp
        obtain ⟨rfl, hsp, hfp, hTp⟩ := hqp
        obtain rfl := hsp.symm
        have Gp := G46.tr hfp
        refine dt_istore dX12_sizeOf_55 (by decide) rfl ?_
        dsimp only [List.set]
        refine dt_aloadn dX12_sizeOf_57 rfl rfl ?_
        refine dt_iloadn dX12_sizeOf_58 rfl rfl ?_
        refine dt_iloadn dX12_sizeOf_59 rfl rfl ?_
        refine dt_xV dX12_sizeOf_60 pc_X12_315 rfl (s_X12_markOf (Gp.X hX) hw hTp (by first | omega | (simp only [List.length_append, List.length_cons, List.length_nil]; omega))) rfl rfl ⟨by decide, by decide⟩ rfl rfl (Nat.le_of_ble_eq_true rfl) ⟨by decide, by decide⟩ ?_
        intro vq shq σq hqq
        obtain ⟨rfl, hsq, hfq, hTq⟩ := hqq
        obtain rfl := hsq.symm
        have Gq := Gp.tr hfq
        refine dt_istore dX12_sizeOf_63 (by decide) rfl ?_
        dsimp only [List.set]
        refine dt_iloadn dX12_sizeOf_65 rfl rfl ?_
        refine dt_iconst dX12_sizeOf_66 ?_
        refine dt_cm_ne (tgt := 79) dX12_sizeOf_67 (by decide) (by first | assumption | exact hwf _ _ | exact dt_b32 _ | omega | exact ⟨by omega, by omega⟩ | decide | exact ⟨by simp (disch := omega) only [dt_up_s, dt_up_k, dt_up_n]; omega, by simp (disch := omega) only [dt_up_s, dt_up_k, dt_up_n]; omega⟩) (by first | assumption | exact hwf _ _ | exact dt_b32 _ | omega | exact ⟨by omega, by omega⟩ | decide | exact ⟨by simp (disch := omega) only [dt_up_s, dt_up_k, dt_up_n]; omega, by simp (disch := omega) only [dt_up_s, dt_up_k, dt_up_n]; omega⟩) (fun c14 => ?_) (fun c14 => ?_)
        · skip
          refine dt_iloadn dX12_sizeOf_79 rfl rfl ?_
          refine dt_iconst dX12_sizeOf_80 ?_
          refine dt_cm_ge (tgt := 92) dX12_sizeOf_81 (by decide) (by first | assumption | exact hwf _ _ | exact dt_b32 _ | omega | exact ⟨by omega, by omega⟩ | decide | exact ⟨by simp (disch := omega) only [dt_up_s, dt_up_k, dt_up_n]; omega, by simp (disch := omega) only [dt_up_s, dt_up_k, dt_up_n]; omega⟩) (by first | assumption | exact hwf _ _ | exact dt_b32 _ | omega | exact ⟨by omega, by omega⟩ | decide | exact ⟨by simp (disch := omega) only [dt_up_s, dt_up_k, dt_up_n]; omega, by simp (disch := omega) only [dt_up_s, dt_up_k, dt_up_n]; omega⟩) (fun c15 => ?_) (fun c15 => ?_)
          · skip
            refine dt_iloadn dX12_sizeOf_92 rfl rfl ?_
            refine dt_iconst dX12_sizeOf_93 ?_
            refine dt_cm_ne (tgt := 105) dX12_sizeOf_94 (by decide) (by first | assumption | exact hwf _ _ | exact dt_b32 _ | omega | exact ⟨by omega, by omega⟩ | decide | exact ⟨by simp (disch := omega) only [dt_up_s, dt_up_k, dt_up_n]; omega, by simp (disch := omega) only [dt_up_s, dt_up_k, dt_up_n]; omega⟩) (by first | assumption | exact hwf _ _ | exact dt_b32 _ | omega | exact ⟨by omega, by omega⟩ | decide | exact ⟨by simp (disch := omega) only [dt_up_s, dt_up_k, dt_up_n]; omega, by simp (disch := omega) only [dt_up_s, dt_up_k, dt_up_n]; omega⟩) (fun c16 => ?_) (fun c16 => ?_)
            · skip
              refine dt_iconst dX12_sizeOf_105 ?_
              refine dt_iload dX12_sizeOf_106 rfl ?_
              refine dt_iload dX12_sizeOf_108 rfl ?_
              refine dt_isub dX12_sizeOf_110 ?_
              refine dt_imul dX12_sizeOf_111 ?_
              refine dt_iret dX12_sizeOf_112 rfl (by decide) (by decide) ?_
              first
              | (exfalso; omega)
              | (refine ⟨dt_ie ?_, rfl, Gq, ?_⟩
                 · unfold szV
                   repeat (first | rw [if_pos (by omega)] | rw [if_neg (by omega)])
                   try (first | rfl | omega)
                 · have e2 : rTrace σq (szT wd.1) := by
                     unfold szT
                     repeat (first | rw [if_pos (by omega)] | rw [if_neg (by omega)])
                     have z := hTq
                     simp only [List.append_assoc, List.cons_append, List.nil_append] at z ⊢
                     exact z
                   exact e2)
            · skip
              refine dt_iload dX12_sizeOf_97 rfl ?_
              refine dt_iload dX12_sizeOf_99 rfl ?_
              refine dt_isub dX12_sizeOf_101 ?_
              refine dt_goto (tgt := 112) dX12_sizeOf_102 (by decide) ?_
              refine dt_iret dX12_sizeOf_112 rfl (by decide) (by decide) ?_
              first
              | (exfalso; omega)
              | (refine ⟨dt_ie ?_, rfl, Gq, ?_⟩
                 · unfold szV
                   repeat (first | rw [if_pos (by omega)] | rw [if_neg (by omega)])
                   try (first | rfl | omega)
                 · have e2 : rTrace σq (szT wd.1) := by
                     unfold szT
                     repeat (first | rw [if_pos (by omega)] | rw [if_neg (by omega)])
                     have z := hTq
                     simp only [List.append_assoc, List.cons_append, List.nil_append] at z ⊢
                     exact z
                   exact e2)
          · skip
            refine dt_iload dX12_sizeOf_84 rfl ?_
            refine dt_iload dX12_sizeOf_86 rfl ?_
            refine dt_iadd dX12_sizeOf_88 ?_
            refine dt_goto (tgt := 112) dX12_sizeOf_89 (by decide) ?_
            refine dt_iret dX12_sizeOf_112 rfl (by decide) (by decide) ?_
            first
            | (exfalso; omega)
            | (refine ⟨dt_ie ?_, rfl, Gq, ?_⟩
               · unfold szV
                 repeat (first | rw [if_pos (by omega)] | rw [if_neg (by omega)])
                 try (first | rfl | omega)
               · have e2 : rTrace σq (szT wd.1) := by
                   unfold szT
                   repeat (first | rw [if_pos (by omega)] | rw [if_neg (by omega)])
                   have z := hTq
                   simp only [List.append_assoc, List.cons_append, List.nil_append] at z ⊢
                   exact z
                 exact e2)
        · skip
          refine dt_iload dX12_sizeOf_70 rfl ?_
          refine dt_uineg dX12_sizeOf_72 ?_
          refine dt_iload dX12_sizeOf_73 rfl ?_
          refine dt_isub dX12_sizeOf_75 ?_
          refine dt_goto (tgt := 112) dX12_sizeOf_76 (by decide) ?_
          refine dt_iret dX12_sizeOf_112 rfl (by decide) (by decide) ?_
          first
          | (exfalso; omega)
          | (refine ⟨dt_ie ?_, rfl, Gq, ?_⟩
             · unfold szV
               repeat (first | rw [if_pos (by omega)] | rw [if_neg (by omega)])
               try (first | rfl | omega)
             · have e2 : rTrace σq (szT wd.1) := by
                 unfold szT
                 repeat (first | rw [if_pos (by omega)] | rw [if_neg (by omega)])
                 have z := hTq
                 simp only [List.append_assoc, List.cons_append, List.nil_append] at z ⊢
                 exact z
               exact e2)
  · skip
    refine dt_iloadn dX12_sizeOf_12 rfl rfl ?_
    refine dt_iconst dX12_sizeOf_13 ?_
    refine dt_cm_ne (tgt := 33) dX12_sizeOf_14 (by decide) (by first | assumption | exact hwf _ _ | exact dt_b32 _ | omega | exact ⟨by omega, by omega⟩ | decide | exact ⟨by simp (disch := omega) only [dt_up_s, dt_up_k, dt_up_n]; omega, by simp (disch := omega) only [dt_up_s, dt_up_k, dt_up_n]; omega⟩) (by first | assumption | exact hwf _ _ | exact dt_b32 _ | omega | exact ⟨by omega, by omega⟩ | decide | exact ⟨by simp (disch := omega) only [dt_up_s, dt_up_k, dt_up_n]; omega, by simp (disch := omega) only [dt_up_s, dt_up_k, dt_up_n]; omega⟩) (fun c17 => ?_) (fun c17 => ?_)
    · skip
      refine dt_aloadn dX12_sizeOf_33 rfl rfl ?_
      refine dt_iloadn dX12_sizeOf_34 rfl rfl ?_
      refine dt_iconst dX12_sizeOf_35 ?_
      refine dt_cm_ge (tgt := 44) dX12_sizeOf_36 (by decide) (by first | assumption | exact hwf _ _ | exact dt_b32 _ | omega | exact ⟨by omega, by omega⟩ | decide | exact ⟨by simp (disch := omega) only [dt_up_s, dt_up_k, dt_up_n]; omega, by simp (disch := omega) only [dt_up_s, dt_up_k, dt_up_n]; omega⟩) (by first | assumption | exact hwf _ _ | exact dt_b32 _ | omega | exact ⟨by omega, by omega⟩ | decide | exact ⟨by simp (disch := omega) only [dt_up_s, dt_up_k, dt_up_n]; omega, by simp (disch := omega) only [dt_up_s, dt_up_k, dt_up_n]; omega⟩) (fun c18 => ?_) (fun c18 => ?_)
      · skip
        refine dt_bipush dX12_sizeOf_44 (by decide) ?_
        refine dt_xV dX12_sizeOf_46 pc_X12_309 rfl (s_X12_began hT0 (by first | omega | (simp only [List.length_append, List.length_cons, List.length_nil]; omega)) (by decide)) rfl rfl ⟨by decide, by decide⟩ rfl rfl (Nat.le_of_ble_eq_true rfl) ⟨by decide, by decide⟩ ?_
        intro v46 sh46 σ46 hq46
        obtain ⟨rfl, hs46, hf46, hT46⟩ := hq46
        obtain rfl := hs46.symm
        have G46 := G0.tr hf46
        refine dt_aloadn dX12_sizeOf_49 rfl rfl ?_
        refine dt_iloadn dX12_sizeOf_50 rfl rfl ?_
        refine dt_iloadn dX12_sizeOf_51 rfl rfl ?_
        refine dt_xV dX12_sizeOf_52 pc_X12_312 rfl (s_X12_plainSize (G46.X hX) hw hT46 (by first | omega | (simp only [List.length_append, List.length_cons, List.length_nil]; omega))) rfl rfl ⟨by decide, by decide⟩ rfl rfl (Nat.le_of_ble_eq_true rfl) ⟨by decide, by decide⟩ ?_
        intro vp shp σp hqp
        obtain ⟨rfl, hsp, hfp, hTp⟩ := hqp
        obtain rfl := hsp.symm
        have Gp := G46.tr hfp
        refine dt_istore dX12_sizeOf_55 (by decide) rfl ?_
        dsimp only [List.set]
        refine dt_aloadn dX12_sizeOf_57 rfl rfl ?_
        refine dt_iloadn dX12_sizeOf_58 rfl rfl ?_
        refine dt_iloadn dX12_sizeOf_59 rfl rfl ?_
        refine dt_xV dX12_sizeOf_60 pc_X12_315 rfl (s_X12_markOf (Gp.X hX) hw hTp (by first | omega | (simp only [List.length_append, List.length_cons, List.length_nil]; omega))) rfl rfl ⟨by decide, by decide⟩ rfl rfl (Nat.le_of_ble_eq_true rfl) ⟨by decide, by decide⟩ ?_
        intro vq shq σq hqq
        obtain ⟨rfl, hsq, hfq, hTq⟩ := hqq
        obtain rfl := hsq.symm
        have Gq := Gp.tr hfq
        refine dt_istore dX12_sizeOf_63 (by decide) rfl ?_
        dsimp only [List.set]
        refine dt_iloadn dX12_sizeOf_65 rfl rfl ?_
        refine dt_iconst dX12_sizeOf_66 ?_
        refine dt_cm_ne (tgt := 79) dX12_sizeOf_67 (by decide) (by first | assumption | exact hwf _ _ | exact dt_b32 _ | omega | exact ⟨by omega, by omega⟩ | decide | exact ⟨by simp (disch := omega) only [dt_up_s, dt_up_k, dt_up_n]; omega, by simp (disch := omega) only [dt_up_s, dt_up_k, dt_up_n]; omega⟩) (by first | assumption | exact hwf _ _ | exact dt_b32 _ | omega | exact ⟨by omega, by omega⟩ | decide | exact ⟨by simp (disch := omega) only [dt_up_s, dt_up_k, dt_up_n]; omega, by simp (disch := omega) only [dt_up_s, dt_up_k, dt_up_n]; omega⟩) (fun c19 => ?_) (fun c19 => ?_)
        · skip
          refine dt_iloadn dX12_sizeOf_79 rfl rfl ?_
          refine dt_iconst dX12_sizeOf_80 ?_
          refine dt_cm_ge (tgt := 92) dX12_sizeOf_81 (by decide) (by first | assumption | exact hwf _ _ | exact dt_b32 _ | omega | exact ⟨by omega, by omega⟩ | decide | exact ⟨by simp (disch := omega) only [dt_up_s, dt_up_k, dt_up_n]; omega, by simp (disch := omega) only [dt_up_s, dt_up_k, dt_up_n]; omega⟩) (by first | assumption | exact hwf _ _ | exact dt_b32 _ | omega | exact ⟨by omega, by omega⟩ | decide | exact ⟨by simp (disch := omega) only [dt_up_s, dt_up_k, dt_up_n]; omega, by simp (disch := omega) only [dt_up_s, dt_up_k, dt_up_n]; omega⟩) (fun c20 => ?_) (fun c20 => ?_)
          · skip
            refine dt_iloadn dX12_sizeOf_92 rfl rfl ?_
            refine dt_iconst dX12_sizeOf_93 ?_
            refine dt_cm_ne (tgt := 105) dX12_sizeOf_94 (by decide) (by first | assumption | exact hwf _ _ | exact dt_b32 _ | omega | exact ⟨by omega, by omega⟩ | decide | exact ⟨by simp (disch := omega) only [dt_up_s, dt_up_k, dt_up_n]; omega, by simp (disch := omega) only [dt_up_s, dt_up_k, dt_up_n]; omega⟩) (by first | assumption | exact hwf _ _ | exact dt_b32 _ | omega | exact ⟨by omega, by omega⟩ | decide | exact ⟨by simp (disch := omega) only [dt_up_s, dt_up_k, dt_up_n]; omega, by simp (disch := omega) only [dt_up_s, dt_up_k, dt_up_n]; omega⟩) (fun c21 => ?_) (fun c21 => ?_)
            · skip
              refine dt_iconst dX12_sizeOf_105 ?_
              refine dt_iload dX12_sizeOf_106 rfl ?_
              refine dt_iload dX12_sizeOf_108 rfl ?_
              refine dt_isub dX12_sizeOf_110 ?_
              refine dt_imul dX12_sizeOf_111 ?_
              refine dt_iret dX12_sizeOf_112 rfl (by decide) (by decide) ?_
              first
              | (exfalso; omega)
              | (refine ⟨dt_ie ?_, rfl, Gq, ?_⟩
                 · unfold szV
                   repeat (first | rw [if_pos (by omega)] | rw [if_neg (by omega)])
                   try (first | rfl | omega)
                 · have e2 : rTrace σq (szT wd.1) := by
                     unfold szT
                     repeat (first | rw [if_pos (by omega)] | rw [if_neg (by omega)])
                     have z := hTq
                     simp only [List.append_assoc, List.cons_append, List.nil_append] at z ⊢
                     exact z
                   exact e2)
            · skip
              refine dt_iload dX12_sizeOf_97 rfl ?_
              refine dt_iload dX12_sizeOf_99 rfl ?_
              refine dt_isub dX12_sizeOf_101 ?_
              refine dt_goto (tgt := 112) dX12_sizeOf_102 (by decide) ?_
              refine dt_iret dX12_sizeOf_112 rfl (by decide) (by decide) ?_
              first
              | (exfalso; omega)
              | (refine ⟨dt_ie ?_, rfl, Gq, ?_⟩
                 · unfold szV
                   repeat (first | rw [if_pos (by omega)] | rw [if_neg (by omega)])
                   try (first | rfl | omega)
                 · have e2 : rTrace σq (szT wd.1) := by
                     unfold szT
                     repeat (first | rw [if_pos (by omega)] | rw [if_neg (by omega)])
                     have z := hTq
                     simp only [List.append_assoc, List.cons_append, List.nil_append] at z ⊢
                     exact z
                   exact e2)
          · skip
            refine dt_iload dX12_sizeOf_84 rfl ?_
            refine dt_iload dX12_sizeOf_86 rfl ?_
            refine dt_iadd dX12_sizeOf_88 ?_
            refine dt_goto (tgt := 112) dX12_sizeOf_89 (by decide) ?_
            refine dt_iret dX12_sizeOf_112 rfl (by decide) (by decide) ?_
            first
            | (exfalso; omega)
            | (refine ⟨dt_ie ?_, rfl, Gq, ?_⟩
               · unfold szV
                 repeat (first | rw [if_pos (by omega)] | rw [if_neg (by omega)])
                 try (first | rfl | omega)
               · have e2 : rTrace σq (szT wd.1) := by
                   unfold szT
                   repeat (first | rw [if_pos (by omega)] | rw [if_neg (by omega)])
                   have z := hTq
                   simp only [List.append_assoc, List.cons_append, List.nil_append] at z ⊢
                   exact z
                 exact e2)
        · skip
          refine dt_iload dX12_sizeOf_70 rfl ?_
          refine dt_uineg dX12_sizeOf_72 ?_
          refine dt_iload dX12_sizeOf_73 rfl ?_
          refine dt_isub dX12_sizeOf_75 ?_
          refine dt_goto (tgt := 112) dX12_sizeOf_76 (by decide) ?_
          refine dt_iret dX12_sizeOf_112 rfl (by decide) (by decide) ?_
          first
          | (exfalso; omega)
          | (refine ⟨dt_ie ?_, rfl, Gq, ?_⟩
             · unfold szV
               repeat (first | rw [if_pos (by omega)] | rw [if_neg (by omega)])
               try (first | rfl | omega)
             · have e2 : rTrace σq (szT wd.1) := by
                 unfold szT
                 repeat (first | rw [if_pos (by omega)] | rw [if_neg (by omega)])
                 have z := hTq
                 simp only [List.append_assoc, List.cons_append, List.nil_append] at z ⊢
                 exact z
               exact e2)
      · skip
        refine dt_bipush dX12_sizeOf_39 (by decide) ?_
        refine dt_goto (tgt := 46) dX12_sizeOf_41 (by decide) ?_
        refine dt_xV dX12_sizeOf_46 pc_X12_309 rfl (s_X12_began hT0 (by first | omega | (simp only [List.length_append, List.length_cons, List.length_nil]; omega)) (by decide)) rfl rfl ⟨by decide, by decide⟩ rfl rfl (Nat.le_of_ble_eq_true rfl) ⟨by decide, by decide⟩ ?_
        intro v46 sh46 σ46 hq46
        obtain ⟨rfl, hs46, hf46, hT46⟩ := hq46
        obtain rfl := hs46.symm
        have G46 := G0.tr hf46
        refine dt_aloadn dX12_sizeOf_49 rfl rfl ?_
        refine dt_iloadn dX12_sizeOf_50 rfl rfl ?_
        refine dt_iloadn dX12_sizeOf_51 rfl rfl ?_
        refine dt_xV dX12_sizeOf_52 pc_X12_312 rfl (s_X12_plainSize (G46.X hX) hw hT46 (by first | omega | (simp only [List.length_append, List.length_cons, List.length_nil]; omega))) rfl rfl ⟨by decide, by decide⟩ rfl rfl (Nat.le_of_ble_eq_true rfl) ⟨by decide, by decide⟩ ?_
        intro vp shp σp hqp
        obtain ⟨rfl, hsp, hfp, hTp⟩ := hqp
        obtain rfl := hsp.symm
        have Gp := G46.tr hfp
        refine dt_istore dX12_sizeOf_55 (by decide) rfl ?_
        dsimp only [List.set]
        refine dt_aloadn dX12_sizeOf_57 rfl rfl ?_
        refine dt_iloadn dX12_sizeOf_58 rfl rfl ?_
        refine dt_iloadn dX12_sizeOf_59 rfl rfl ?_
        refine dt_xV dX12_sizeOf_60 pc_X12_315 rfl (s_X12_markOf (Gp.X hX) hw hTp (by first | omega | (simp only [List.length_append, List.length_cons, List.length_nil]; omega))) rfl rfl ⟨by decide, by decide⟩ rfl rfl (Nat.le_of_ble_eq_true rfl) ⟨by decide, by decide⟩ ?_
        intro vq shq σq hqq
        obtain ⟨rfl, hsq, hfq, hTq⟩ := hqq
        obtain rfl := hsq.symm
        have Gq := Gp.tr hfq
        refine dt_istore dX12_sizeOf_63 (by decide) rfl ?_
        dsimp only [List.set]
        refine dt_iloadn dX12_sizeOf_65 rfl rfl ?_
        refine dt_iconst dX12_sizeOf_66 ?_
        refine dt_cm_ne (tgt := 79) dX12_sizeOf_67 (by decide) (by first | assumption | exact hwf _ _ | exact dt_b32 _ | omega | exact ⟨by omega, by omega⟩ | decide | exact ⟨by simp (disch := omega) only [dt_up_s, dt_up_k, dt_up_n]; omega, by simp (disch := omega) only [dt_up_s, dt_up_k, dt_up_n]; omega⟩) (by first | assumption | exact hwf _ _ | exact dt_b32 _ | omega | exact ⟨by omega, by omega⟩ | decide | exact ⟨by simp (disch := omega) only [dt_up_s, dt_up_k, dt_up_n]; omega, by simp (disch := omega) only [dt_up_s, dt_up_k, dt_up_n]; omega⟩) (fun c22 => ?_) (fun c22 => ?_)
        · skip
          refine dt_iloadn dX12_sizeOf_79 rfl rfl ?_
          refine dt_iconst dX12_sizeOf_80 ?_
          refine dt_cm_ge (tgt := 92) dX12_sizeOf_81 (by decide) (by first | assumption | exact hwf _ _ | exact dt_b32 _ | omega | exact ⟨by omega, by omega⟩ | decide | exact ⟨by simp (disch := omega) only [dt_up_s, dt_up_k, dt_up_n]; omega, by simp (disch := omega) only [dt_up_s, dt_up_k, dt_up_n]; omega⟩) (by first | assumption | exact hwf _ _ | exact dt_b32 _ | omega | exact ⟨by omega, by omega⟩ | decide | exact ⟨by simp (disch := omega) only [dt_up_s, dt_up_k, dt_up_n]; omega, by simp (disch := omega) only [dt_up_s, dt_up_k, dt_up_n]; omega⟩) (fun c23 => ?_) (fun c23 => ?_)
          · skip
            refine dt_iloadn dX12_sizeOf_92 rfl rfl ?_
            refine dt_iconst dX12_sizeOf_93 ?_
            refine dt_cm_ne (tgt := 105) dX12_sizeOf_94 (by decide) (by first | assumption | exact hwf _ _ | exact dt_b32 _ | omega | exact ⟨by omega, by omega⟩ | decide | exact ⟨by simp (disch := omega) only [dt_up_s, dt_up_k, dt_up_n]; omega, by simp (disch := omega) only [dt_up_s, dt_up_k, dt_up_n]; omega⟩) (by first | assumption | exact hwf _ _ | exact dt_b32 _ | omega | exact ⟨by omega, by omega⟩ | decide | exact ⟨by simp (disch := omega) only [dt_up_s, dt_up_k, dt_up_n]; omega, by simp (disch := omega) only [dt_up_s, dt_up_k, dt_up_n]; omega⟩) (fun c24 => ?_) (fun c24 => ?_)
            · skip
              refine dt_iconst dX12_sizeOf_105 ?_
              refine dt_iload dX12_sizeOf_106 rfl ?_
              refine dt_iload dX12_sizeOf_108 rfl ?_
              refine dt_isub dX12_sizeOf_110 ?_
              refine dt_imul dX12_sizeOf_111 ?_
              refine dt_iret dX12_sizeOf_112 rfl (by decide) (by decide) ?_
              first
              | (exfalso; omega)
              | (refine ⟨dt_ie ?_, rfl, Gq, ?_⟩
                 · unfold szV
                   repeat (first | rw [if_pos (by omega)] | rw [if_neg (by omega)])
                   try (first | rfl | omega)
                 · have e2 : rTrace σq (szT wd.1) := by
                     unfold szT
                     repeat (first | rw [if_pos (by omega)] | rw [if_neg (by omega)])
                     have z := hTq
                     simp only [List.append_assoc, List.cons_append, List.nil_append] at z ⊢
                     exact z
                   exact e2)
            · skip
              refine dt_iload dX12_sizeOf_97 rfl ?_
              refine dt_iload dX12_sizeOf_99 rfl ?_
              refine dt_isub dX12_sizeOf_101 ?_
              refine dt_goto (tgt := 112) dX12_sizeOf_102 (by decide) ?_
              refine dt_iret dX12_sizeOf_112 rfl (by decide) (by decide) ?_
              first
              | (exfalso; omega)
              | (refine ⟨dt_ie ?_, rfl, Gq, ?_⟩
                 · unfold szV
                   repeat (first | rw [if_pos (by omega)] | rw [if_neg (by omega)])
                   try (first | rfl | omega)
                 · have e2 : rTrace σq (szT wd.1) := by
                     unfold szT
                     repeat (first | rw [if_pos (by omega)] | rw [if_neg (by omega)])
                     have z := hTq
                     simp only [List.append_assoc, List.cons_append, List.nil_append] at z ⊢
                     exact z
                   exact e2)
          · skip
            refine dt_iload dX12_sizeOf_84 rfl ?_
            refine dt_iload dX12_sizeOf_86 rfl ?_
            refine dt_iadd dX12_sizeOf_88 ?_
            refine dt_goto (tgt := 112) dX12_sizeOf_89 (by decide) ?_
            refine dt_iret dX12_sizeOf_112 rfl (by decide) (by decide) ?_
            first
            | (exfalso; omega)
            | (refine ⟨dt_ie ?_, rfl, Gq, ?_⟩
               · unfold szV
                 repeat (first | rw [if_pos (by omega)] | rw [if_neg (by omega)])
                 try (first | rfl | omega)
               · have e2 : rTrace σq (szT wd.1) := by
                   unfold szT
                   repeat (first | rw [if_pos (by omega)] | rw [if_neg (by omega)])
                   have z := hTq
                   simp only [List.append_assoc, List.cons_append, List.nil_append] at z ⊢
                   exact z
                 exact e2)
        · skip
          refine dt_iload dX12_sizeOf_70 rfl ?_
          refine dt_uineg dX12_sizeOf_72 ?_
          refine dt_iload dX12_sizeOf_73 rfl ?_
          refine dt_isub dX12_sizeOf_75 ?_
          refine dt_goto (tgt := 112) dX12_sizeOf_76 (by decide) ?_
          refine dt_iret dX12_sizeOf_112 rfl (by decide) (by decide) ?_
          first
          | (exfalso; omega)
          | (refine ⟨dt_ie ?_, rfl, Gq, ?_⟩
             · unfold szV
               repeat (first | rw [if_pos (by omega)] | rw [if_neg (by omega)])
               try (first | rfl | omega)
             · have e2 : rTrace σq (szT wd.1) := by
                 unfold szT
                 repeat (first | rw [if_pos (by omega)] | rw [if_neg (by omega)])
                 have z := hTq
                 simp only [List.append_assoc, List.cons_append, List.nil_append] at z ⊢
                 exact z
               exact e2)
    · skip
      refine dt_aloadn dX12_sizeOf_17 rfl rfl ?_
      refine dt_iloadn dX12_sizeOf_18 rfl rfl ?_
      refine dt_iconst dX12_sizeOf_19 ?_
      refine dt_cm_ne (tgt := 28) dX12_sizeOf_20 (by decide) (by first | assumption | exact hwf _ _ | exact dt_b32 _ | omega | exact ⟨by omega, by omega⟩ | decide | exact ⟨by simp (disch := omega) only [dt_up_s, dt_up_k, dt_up_n]; omega, by simp (disch := omega) only [dt_up_s, dt_up_k, dt_up_n]; omega⟩) (by first | assumption | exact hwf _ _ | exact dt_b32 _ | omega | exact ⟨by omega, by omega⟩ | decide | exact ⟨by simp (disch := omega) only [dt_up_s, dt_up_k, dt_up_n]; omega, by simp (disch := omega) only [dt_up_s, dt_up_k, dt_up_n]; omega⟩) (fun c25 => ?_) (fun c25 => ?_)
      · skip
        refine dt_bipush dX12_sizeOf_28 (by decide) ?_
        refine dt_xV dX12_sizeOf_30 pc_X12_309 rfl (s_X12_began hT0 (by first | omega | (simp only [List.length_append, List.length_cons, List.length_nil]; omega)) (by decide)) rfl rfl ⟨by decide, by decide⟩ rfl rfl (Nat.le_of_ble_eq_true rfl) ⟨by decide, by decide⟩ ?_
        intro v30 sh30 σ30 hq30
        obtain ⟨rfl, hs30, hf30, hT30⟩ := hq30
        obtain rfl := hs30.symm
        have G30 := G0.tr hf30
        refine dt_aloadn dX12_sizeOf_33 rfl rfl ?_
        refine dt_iloadn dX12_sizeOf_34 rfl rfl ?_
        refine dt_iconst dX12_sizeOf_35 ?_
        refine dt_cm_ge (tgt := 44) dX12_sizeOf_36 (by decide) (by first | assumption | exact hwf _ _ | exact dt_b32 _ | omega | exact ⟨by omega, by omega⟩ | decide | exact ⟨by simp (disch := omega) only [dt_up_s, dt_up_k, dt_up_n]; omega, by simp (disch := omega) only [dt_up_s, dt_up_k, dt_up_n]; omega⟩) (by first | assumption | exact hwf _ _ | exact dt_b32 _ | omega | exact ⟨by omega, by omega⟩ | decide | exact ⟨by simp (disch := omega) only [dt_up_s, dt_up_k, dt_up_n]; omega, by simp (disch := omega) only [dt_up_s, dt_up_k, dt_up_n]; omega⟩) (fun c26 => ?_) (fun c26 => ?_)
        · skip
          refine dt_bipush dX12_sizeOf_44 (by decide) ?_
          refine dt_xV dX12_sizeOf_46 pc_X12_309 rfl (s_X12_began hT30 (by first | omega | (simp only [List.length_append, List.length_cons, List.length_nil]; omega)) (by decide)) rfl rfl ⟨by decide, by decide⟩ rfl rfl (Nat.le_of_ble_eq_true rfl) ⟨by decide, by decide⟩ ?_
          intro v46 sh46 σ46 hq46
          obtain ⟨rfl, hs46, hf46, hT46⟩ := hq46
          obtain rfl := hs46.symm
          have G46 := G30.tr hf46
          refine dt_aloadn dX12_sizeOf_49 rfl rfl ?_
          refine dt_iloadn dX12_sizeOf_50 rfl rfl ?_
          refine dt_iloadn dX12_sizeOf_51 rfl rfl ?_
          refine dt_xV dX12_sizeOf_52 pc_X12_312 rfl (s_X12_plainSize (G46.X hX) hw hT46 (by first | omega | (simp only [List.length_append, List.length_cons, List.length_nil]; omega))) rfl rfl ⟨by decide, by decide⟩ rfl rfl (Nat.le_of_ble_eq_true rfl) ⟨by decide, by decide⟩ ?_
          intro vp shp σp hqp
          obtain ⟨rfl, hsp, hfp, hTp⟩ := hqp
          obtain rfl := hsp.symm
          have Gp := G46.tr hfp
          refine dt_istore dX12_sizeOf_55 (by decide) rfl ?_
          dsimp only [List.set]
          refine dt_aloadn dX12_sizeOf_57 rfl rfl ?_
          refine dt_iloadn dX12_sizeOf_58 rfl rfl ?_
          refine dt_iloadn dX12_sizeOf_59 rfl rfl ?_
          refine dt_xV dX12_sizeOf_60 pc_X12_315 rfl (s_X12_markOf (Gp.X hX) hw hTp (by first | omega | (simp only [List.length_append, List.length_cons, List.length_nil]; omega))) rfl rfl ⟨by decide, by decide⟩ rfl rfl (Nat.le_of_ble_eq_true rfl) ⟨by decide, by decide⟩ ?_
          intro vq shq σq hqq
          obtain ⟨rfl, hsq, hfq, hTq⟩ := hqq
          obtain rfl := hsq.symm
          have Gq := Gp.tr hfq
          refine dt_istore dX12_sizeOf_63 (by decide) rfl ?_
          dsimp only [List.set]
          refine dt_iloadn dX12_sizeOf_65 rfl rfl ?_
          refine dt_iconst dX12_sizeOf_66 ?_
          refine dt_cm_ne (tgt := 79) dX12_sizeOf_67 (by decide) (by first | assumption | exact hwf _ _ | exact dt_b32 _ | omega | exact ⟨by omega, by omega⟩ | decide | exact ⟨by simp (disch := omega) only [dt_up_s, dt_up_k, dt_up_n]; omega, by simp (disch := omega) only [dt_up_s, dt_up_k, dt_up_n]; omega⟩) (by first | assumption | exact hwf _ _ | exact dt_b32 _ | omega | exact ⟨by omega, by omega⟩ | decide | exact ⟨by simp (disch := omega) only [dt_up_s, dt_up_k, dt_up_n]; omega, by simp (disch := omega) only [dt_up_s, dt_up_k, dt_up_n]; omega⟩) (fun c27 => ?_) (fun c27 => ?_)
          · skip
            refine dt_iloadn dX12_sizeOf_79 rfl rfl ?_
            refine dt_iconst dX12_sizeOf_80 ?_
            refine dt_cm_ge (tgt := 92) dX12_sizeOf_81 (by decide) (by first | assumption | exact hwf _ _ | exact dt_b32 _ | omega | exact ⟨by omega, by omega⟩ | decide | exact ⟨by simp (disch := omega) only [dt_up_s, dt_up_k, dt_up_n]; omega, by simp (disch := omega) only [dt_up_s, dt_up_k, dt_up_n]; omega⟩) (by first | assumption | exact hwf _ _ | exact dt_b32 _ | omega | exact ⟨by omega, by omega⟩ | decide | exact ⟨by simp (disch := omega) only [dt_up_s, dt_up_k, dt_up_n]; omega, by simp (disch := omega) only [dt_up_s, dt_up_k, dt_up_n]; omega⟩) (fun c28 => ?_) (fun c28 => ?_)
            · skip
              refine dt_iloadn dX12_sizeOf_92 rfl rfl ?_
              refine dt_iconst dX12_sizeOf_93 ?_
              refine dt_cm_ne (tgt := 105) dX12_sizeOf_94 (by decide) (by first | assumption | exact hwf _ _ | exact dt_b32 _ | omega | exact ⟨by omega, by omega⟩ | decide | exact ⟨by simp (disch := omega) only [dt_up_s, dt_up_k, dt_up_n]; omega, by simp (disch := omega) only [dt_up_s, dt_up_k, dt_up_n]; omega⟩) (by first | assumption | exact hwf _ _ | exact dt_b32 _ | omega | exact ⟨by omega, by omega⟩ | decide | exact ⟨by simp (disch := omega) only [dt_up_s, dt_up_k, dt_up_n]; omega, by simp (disch := omega) only [dt_up_s, dt_up_k, dt_up_n]; omega⟩) (fun c29 => ?_) (fun c29 => ?_)
              · skip
                refine dt_iconst dX12_sizeOf_105 ?_
                refine dt_iload dX12_sizeOf_106 rfl ?_
                refine dt_iload dX12_sizeOf_108 rfl ?_
                refine dt_isub dX12_sizeOf_110 ?_
                refine dt_imul dX12_sizeOf_111 ?_
                refine dt_iret dX12_sizeOf_112 rfl (by decide) (by decide) ?_
                first
                | (exfalso; omega)
                | (refine ⟨dt_ie ?_, rfl, Gq, ?_⟩
                   · unfold szV
                     repeat (first | rw [if_pos (by omega)] | rw [if_neg (by omega)])
                     try (first | rfl | omega)
                   · have e2 : rTrace σq (szT wd.1) := by
                       unfold szT
                       repeat (first | rw [if_pos (by omega)] | rw [if_neg (by omega)])
                       have z := hTq
                       simp only [List.append_assoc, List.cons_append, List.nil_append] at z ⊢
                       exact z
                     exact e2)
              · skip
                refine dt_iload dX12_sizeOf_97 rfl ?_
                refine dt_iload dX12_sizeOf_99 rfl ?_
                refine dt_isub dX12_sizeOf_101 ?_
                refine dt_goto (tgt := 112) dX12_sizeOf_102 (by decide) ?_
                refine dt_iret dX12_sizeOf_112 rfl (by decide) (by decide) ?_
                first
                | (exfalso; omega)
                | (refine ⟨dt_ie ?_, rfl, Gq, ?_⟩
                   · unfold szV
                     repeat (first | rw [if_pos (by omega)] | rw [if_neg (by omega)])
                     try (first | rfl | omega)
                   · have e2 : rTrace σq (szT wd.1) := by
                       unfold szT
                       repeat (first | rw [if_pos (by omega)] | rw [if_neg (by omega)])
                       have z := hTq
                       simp only [List.append_assoc, List.cons_append, List.nil_append] at z ⊢
                       exact z
                     exact e2)
            · skip
              refine dt_iload dX12_sizeOf_84 rfl ?_
              refine dt_iload dX12_sizeOf_86 rfl ?_
              refine dt_iadd dX12_sizeOf_88 ?_
              refine dt_goto (tgt := 112) dX12_sizeOf_89 (by decide) ?_
              refine dt_iret dX12_sizeOf_112 rfl (by decide) (by decide) ?_
              first
              | (exfalso; omega)
              | (refine ⟨dt_ie ?_, rfl, Gq, ?_⟩
                 · unfold szV
                   repeat (first | rw [if_pos (by omega)] | rw [if_neg (by omega)])
                   try (first | rfl | omega)
                 · have e2 : rTrace σq (szT wd.1) := by
                     unfold szT
                     repeat (first | rw [if_pos (by omega)] | rw [if_neg (by omega)])
                     have z := hTq
                     simp only [List.append_assoc, List.cons_append, List.nil_append] at z ⊢
                     exact z
                   exact e2)
          · skip
            refine dt_iload dX12_sizeOf_70 rfl ?_
            refine dt_uineg dX12_sizeOf_72 ?_
            refine dt_iload dX12_sizeOf_73 rfl ?_
            refine dt_isub dX12_sizeOf_75 ?_
            refine dt_goto (tgt := 112) dX12_sizeOf_76 (by decide) ?_
            refine dt_iret dX12_sizeOf_112 rfl (by decide) (by decide) ?_
            first
            | (exfalso; omega)
            | (refine ⟨dt_ie ?_, rfl, Gq, ?_⟩
               · unfold szV
                 repeat (first | rw [if_pos (by omega)] | rw [if_neg (by omega)])
                 try (first | rfl | omega)
               · have e2 : rTrace σq (szT wd.1) := by
                   unfold szT
                   repeat (first | rw [if_pos (by omega)] | rw [if_neg (by omega)])
                   have z := hTq
                   simp only [List.append_assoc, List.cons_append, List.nil_append] at z ⊢
                   exact z
                 exact e2)
        · skip
          refine dt_bipush dX12_sizeOf_39 (by decide) ?_
          refine dt_goto (tgt := 46) dX12_sizeOf_41 (by decide) ?_
          refine dt_xV dX12_sizeOf_46 pc_X12_309 rfl (s_X12_began hT30 (by first | omega | (simp only [List.length_append, List.length_cons, List.length_nil]; omega)) (by decide)) rfl rfl ⟨by decide, by decide⟩ rfl rfl (Nat.le_of_ble_eq_true rfl) ⟨by decide, by decide⟩ ?_
          intro v46 sh46 σ46 hq46
          obtain ⟨rfl, hs46, hf46, hT46⟩ := hq46
          obtain rfl := hs46.symm
          have G46 := G30.tr hf46
          refine dt_aloadn dX12_sizeOf_49 rfl rfl ?_
          refine dt_iloadn dX12_sizeOf_50 rfl rfl ?_
          refine dt_iloadn dX12_sizeOf_51 rfl rfl ?_
          refine dt_xV dX12_sizeOf_52 pc_X12_312 rfl (s_X12_plainSize (G46.X hX) hw hT46 (by first | omega | (simp only [List.length_append, List.length_cons, List.length_nil]; omega))) rfl rfl ⟨by decide, by decide⟩ rfl rfl (Nat.le_of_ble_eq_true rfl) ⟨by decide, by decide⟩ ?_
          intro vp shp σp hqp
          obtain ⟨rfl, hsp, hfp, hTp⟩ := hqp
          obtain rfl := hsp.symm
          have Gp := G46.tr hfp
          refine dt_istore dX12_sizeOf_55 (by decide) rfl ?_
          dsimp only [List.set]
          refine dt_aloadn dX12_sizeOf_57 rfl rfl ?_
          refine dt_iloadn dX12_sizeOf_58 rfl rfl ?_
          refine dt_iloadn dX12_sizeOf_59 rfl rfl ?_
          refine dt_xV dX12_sizeOf_60 pc_X12_315 rfl (s_X12_markOf (Gp.X hX) hw hTp (by first | omega | (simp only [List.length_append, List.length_cons, List.length_nil]; omega))) rfl rfl ⟨by decide, by decide⟩ rfl rfl (Nat.le_of_ble_eq_true rfl) ⟨by decide, by decide⟩ ?_
          intro vq shq σq hqq
          obtain ⟨rfl, hsq, hfq, hTq⟩ := hqq
          obtain rfl := hsq.symm
          have Gq := Gp.tr hfq
          refine dt_istore dX12_sizeOf_63 (by decide) rfl ?_
          dsimp only [List.set]
          refine dt_iloadn dX12_sizeOf_65 rfl rfl ?_
          refine dt_iconst dX12_sizeOf_66 ?_
          refine dt_cm_ne (tgt := 79) dX12_sizeOf_67 (by decide) (by first | assumption | exact hwf _ _ | exact dt_b32 _ | omega | exact ⟨by omega, by omega⟩ | decide | exact ⟨by simp (disch := omega) only [dt_up_s, dt_up_k, dt_up_n]; omega, by simp (disch := omega) only [dt_up_s, dt_up_k, dt_up_n]; omega⟩) (by first | assumption | exact hwf _ _ | exact dt_b32 _ | omega | exact ⟨by omega, by omega⟩ | decide | exact ⟨by simp (disch := omega) only [dt_up_s, dt_up_k, dt_up_n]; omega, by simp (disch := omega) only [dt_up_s, dt_up_k, dt_up_n]; omega⟩) (fun c30 => ?_) (fun c30 => ?_)
          · skip
            refine dt_iloadn dX12_sizeOf_79 rfl rfl ?_
            refine dt_iconst dX12_sizeOf_80 ?_
            refine dt_cm_ge (tgt := 92) dX12_sizeOf_81 (by decide) (by first | assumption | exact hwf _ _ | exact dt_b32 _ | omega | exact ⟨by omega, by omega⟩ | decide | exact ⟨by simp (disch := omega) only [dt_up_s, dt_up_k, dt_up_n]; omega, by simp (disch := omega) only [dt_up_s, dt_up_k, dt_up_n]; omega⟩) (by first | assumption | exact hwf _ _ | exact dt_b32 _ | omega | exact ⟨by omega, by omega⟩ | decide | exact ⟨by simp (disch := omega) only [dt_up_s, dt_up_k, dt_up_n]; omega, by simp (disch := omega) only [dt_up_s, dt_up_k, dt_up_n]; omega⟩) (fun c31 => ?_) (fun c31 => ?_)
            · skip
              refine dt_iloadn dX12_sizeOf_92 rfl rfl ?_
              refine dt_iconst dX12_sizeOf_93 ?_
              refine dt_cm_ne (tgt := 105) dX12_sizeOf_94 (by decide) (by first | assumption | exact hwf _ _ | exact dt_b32 _ | omega | exact ⟨by omega, by omega⟩ | decide | exact ⟨by simp (disch := omega) only [dt_up_s, dt_up_k, dt_up_n]; omega, by simp (disch := omega) only [dt_up_s, dt_up_k, dt_up_n]; omega⟩) (by first | assumption | exact hwf _ _ | exact dt_b32 _ | omega | exact ⟨by omega, by omega⟩ | decide | exact ⟨by simp (disch := omega) only [dt_up_s, dt_up_k, dt_up_n]; omega, by simp (disch := omega) only [dt_up_s, dt_up_k, dt_up_n]; omega⟩) (fun c32 => ?_) (fun c32 => ?_)
              · skip
                refine dt_iconst dX12_sizeOf_105 ?_
                refine dt_iload dX12_sizeOf_106 rfl ?_
                refine dt_iload dX12_sizeOf_108 rfl ?_
                refine dt_isub dX12_sizeOf_110 ?_
                refine dt_imul dX12_sizeOf_111 ?_
                refine dt_iret dX12_sizeOf_112 rfl (by decide) (by decide) ?_
                first
                | (exfalso; omega)
                | (refine ⟨dt_ie ?_, rfl, Gq, ?_⟩
                   · unfold szV
                     repeat (first | rw [if_pos (by omega)] | rw [if_neg (by omega)])
                     try (first | rfl | omega)
                   · have e2 : rTrace σq (szT wd.1) := by
                       unfold szT
                       repeat (first | rw [if_pos (by omega)] | rw [if_neg (by omega)])
                       have z := hTq
                       simp only [List.append_assoc, List.cons_append, List.nil_append] at z ⊢
                       exact z
                     exact e2)
              · skip
                refine dt_iload dX12_sizeOf_97 rfl ?_
                refine dt_iload dX12_sizeOf_99 rfl ?_
                refine dt_isub dX12_sizeOf_101 ?_
                refine dt_goto (tgt := 112) dX12_sizeOf_102 (by decide) ?_
                refine dt_iret dX12_sizeOf_112 rfl (by decide) (by decide) ?_
                first
                | (exfalso; omega)
                | (refine ⟨dt_ie ?_, rfl, Gq, ?_⟩
                   · unfold szV
                     repeat (first | rw [if_pos (by omega)] | rw [if_neg (by omega)])
                     try (first | rfl | omega)
                   · have e2 : rTrace σq (szT wd.1) := by
                       unfold szT
                       repeat (first | rw [if_pos (by omega)] | rw [if_neg (by omega)])
                       have z := hTq
                       simp only [List.append_assoc, List.cons_append, List.nil_append] at z ⊢
                       exact z
                     exact e2)
            · skip
              refine dt_iload dX12_sizeOf_84 rfl ?_
              refine dt_iload dX12_sizeOf_86 rfl ?_
              refine dt_iadd dX12_sizeOf_88 ?_
              refine dt_goto (tgt := 112) dX12_sizeOf_89 (by decide) ?_
              refine dt_iret dX12_sizeOf_112 rfl (by decide) (by decide) ?_
              first
              | (exfalso; omega)
              | (refine ⟨dt_ie ?_, rfl, Gq, ?_⟩
                 · unfold szV
                   repeat (first | rw [if_pos (by omega)] | rw [if_neg (by omega)])
                   try (first | rfl | omega)
                 · have e2 : rTrace σq (szT wd.1) := by
                     unfold szT
                     repeat (first | rw [if_pos (by omega)] | rw [if_neg (by omega)])
                     have z := hTq
                     simp only [List.append_assoc, List.cons_append, List.nil_append] at z ⊢
                     exact z
                   exact e2)
          · skip
            refine dt_iload dX12_sizeOf_70 rfl ?_
            refine dt_uineg dX12_sizeOf_72 ?_
            refine dt_iload dX12_sizeOf_73 rfl ?_
            refine dt_isub dX12_sizeOf_75 ?_
            refine dt_goto (tgt := 112) dX12_sizeOf_76 (by decide) ?_
            refine dt_iret dX12_sizeOf_112 rfl (by decide) (by decide) ?_
            first
            | (exfalso; omega)
            | (refine ⟨dt_ie ?_, rfl, Gq, ?_⟩
               · unfold szV
                 repeat (first | rw [if_pos (by omega)] | rw [if_neg (by omega)])
                 try (first | rfl | omega)
               · have e2 : rTrace σq (szT wd.1) := by
                   unfold szT
                   repeat (first | rw [if_pos (by omega)] | rw [if_neg (by omega)])
                   have z := hTq
                   simp only [List.append_assoc, List.cons_append, List.nil_append] at z ⊢
                   exact z
                 exact e2)
      · skip
        refine dt_bipush dX12_sizeOf_23 (by decide) ?_
        refine dt_goto (tgt := 30) dX12_sizeOf_25 (by decide) ?_
        refine dt_xV dX12_sizeOf_30 pc_X12_309 rfl (s_X12_began hT0 (by first | omega | (simp only [List.length_append, List.length_cons, List.length_nil]; omega)) (by decide)) rfl rfl ⟨by decide, by decide⟩ rfl rfl (Nat.le_of_ble_eq_true rfl) ⟨by decide, by decide⟩ ?_
        intro v30 sh30 σ30 hq30
        obtain ⟨rfl, hs30, hf30, hT30⟩ := hq30
        obtain rfl := hs30.symm
        have G30 := G0.tr hf30
        refine dt_aloadn dX12_sizeOf_33 rfl rfl ?_
        refine dt_iloadn dX12_sizeOf_34 rfl rfl ?_
        refine dt_iconst dX12_sizeOf_35 ?_
        refine dt_cm_ge (tgt := 44) dX12_sizeOf_36 (by decide) (by first | assumption | exact hwf _ _ | exact dt_b32 _ | omega | exact ⟨by omega, by omega⟩ | decide | exact ⟨by simp (disch := omega) only [dt_up_s, dt_up_k, dt_up_n]; omega, by simp (disch := omega) only [dt_up_s, dt_up_k, dt_up_n]; omega⟩) (by first | assumption | exact hwf _ _ | exact dt_b32 _ | omega | exact ⟨by omega, by omega⟩ | decide | exact ⟨by simp (disch := omega) only [dt_up_s, dt_up_k, dt_up_n]; omega, by simp (disch := omega) only [dt_up_s, dt_up_k, dt_up_n]; omega⟩) (fun c33 => ?_) (fun c33 => ?_)
        · skip
          refine dt_bipush dX12_sizeOf_44 (by decide) ?_
          refine dt_xV dX12_sizeOf_46 pc_X12_309 rfl (s_X12_began hT30 (by first | omega | (simp only [List.length_append, List.length_cons, List.length_nil]; omega)) (by decide)) rfl rfl ⟨by decide, by decide⟩ rfl rfl (Nat.le_of_ble_eq_true rfl) ⟨by decide, by decide⟩ ?_
          intro v46 sh46 σ46 hq46
          obtain ⟨rfl, hs46, hf46, hT46⟩ := hq46
          obtain rfl := hs46.symm
          have G46 := G30.tr hf46
          refine dt_aloadn dX12_sizeOf_49 rfl rfl ?_
          refine dt_iloadn dX12_sizeOf_50 rfl rfl ?_
          refine dt_iloadn dX12_sizeOf_51 rfl rfl ?_
          refine dt_xV dX12_sizeOf_52 pc_X12_312 rfl (s_X12_plainSize (G46.X hX) hw hT46 (by first | omega | (simp only [List.length_append, List.length_cons, List.length_nil]; omega))) rfl rfl ⟨by decide, by decide⟩ rfl rfl (Nat.le_of_ble_eq_true rfl) ⟨by decide, by decide⟩ ?_
          intro vp shp σp hqp
          obtain ⟨rfl, hsp, hfp, hTp⟩ := hqp
          obtain rfl := hsp.symm
          have Gp := G46.tr hfp
          refine dt_istore dX12_sizeOf_55 (by decide) rfl ?_
          dsimp only [List.set]
          refine dt_aloadn dX12_sizeOf_57 rfl rfl ?_
          refine dt_iloadn dX12_sizeOf_58 rfl rfl ?_
          refine dt_iloadn dX12_sizeOf_59 rfl rfl ?_
          refine dt_xV dX12_sizeOf_60 pc_X12_315 rfl (s_X12_markOf (Gp.X hX) hw hTp (by first | omega | (simp only [List.length_append, List.length_cons, List.length_nil]; omega))) rfl rfl ⟨by decide, by decide⟩ rfl rfl (Nat.le_of_ble_eq_true rfl) ⟨by decide, by decide⟩ ?_
          intro vq shq σq hqq
          obtain ⟨rfl, hsq, hfq, hTq⟩ := hqq
          obtain rfl := hsq.symm
          have Gq := Gp.tr hfq
          refine dt_istore dX12_sizeOf_63 (by decide) rfl ?_
          dsimp only [List.set]
          refine dt_iloadn dX12_sizeOf_65 rfl rfl ?_
          refine dt_iconst dX12_sizeOf_66 ?_
          refine dt_cm_ne (tgt := 79) dX12_sizeOf_67 (by decide) (by first | assumption | exact hwf _ _ | exact dt_b32 _ | omega | exact ⟨by omega, by omega⟩ | decide | exact ⟨by simp (disch := omega) only [dt_up_s, dt_up_k, dt_up_n]; omega, by simp (disch := omega) only [dt_up_s, dt_up_k, dt_up_n]; omega⟩) (by first | assumption | exact hwf _ _ | exact dt_b32 _ | omega | exact ⟨by omega, by omega⟩ | decide | exact ⟨by simp (disch := omega) only [dt_up_s, dt_up_k, dt_up_n]; omega, by simp (disch := omega) only [dt_up_s, dt_up_k, dt_up_n]; omega⟩) (fun c34 => ?_) (fun c34 => ?_)
          · skip
            refine dt_iloadn dX12_sizeOf_79 rfl rfl ?_
            refine dt_iconst dX12_sizeOf_80 ?_
            refine dt_cm_ge (tgt := 92) dX12_sizeOf_81 (by decide) (by first | assumption | exact hwf _ _ | exact dt_b32 _ | omega | exact ⟨by omega, by omega⟩ | decide | exact ⟨by simp (disch := omega) only [dt_up_s, dt_up_k, dt_up_n]; omega, by simp (disch := omega) only [dt_up_s, dt_up_k, dt_up_n]; omega⟩) (by first | assumption | exact hwf _ _ | exact dt_b32 _ | omega | exact ⟨by omega, by omega⟩ | decide | exact ⟨by simp (disch := omega) only [dt_up_s, dt_up_k, dt_up_n]; omega, by simp (disch := omega) only [dt_up_s, dt_up_k, dt_up_n]; omega⟩) (fun c35 => ?_) (fun c35 => ?_)
            · skip
              refine dt_iloadn dX12_sizeOf_92 rfl rfl ?_
              refine dt_iconst dX12_sizeOf_93 ?_
              refine dt_cm_ne (tgt := 105) dX12_sizeOf_94 (by decide) (by first | assumption | exact hwf _ _ | exact dt_b32 _ | omega | exact ⟨by omega, by omega⟩ | decide | exact ⟨by simp (disch := omega) only [dt_up_s, dt_up_k, dt_up_n]; omega, by simp (disch := omega) only [dt_up_s, dt_up_k, dt_up_n]; omega⟩) (by first | assumption | exact hwf _ _ | exact dt_b32 _ | omega | exact ⟨by omega, by omega⟩ | decide | exact ⟨by simp (disch := omega) only [dt_up_s, dt_up_k, dt_up_n]; omega, by simp (disch := omega) only [dt_up_s, dt_up_k, dt_up_n]; omega⟩) (fun c36 => ?_) (fun c36 => ?_)
              · skip
                refine dt_iconst dX12_sizeOf_105 ?_
                refine dt_iload dX12_sizeOf_106 rfl ?_
                refine dt_iload dX12_sizeOf_108 rfl ?_
                refine dt_isub dX12_sizeOf_110 ?_
                refine dt_imul dX12_sizeOf_111 ?_
                refine dt_iret dX12_sizeOf_112 rfl (by decide) (by decide) ?_
                first
                | (exfalso; omega)
                | (refine ⟨dt_ie ?_, rfl, Gq, ?_⟩
                   · unfold szV
                     repeat (first | rw [if_pos (by omega)] | rw [if_neg (by omega)])
                     try (first | rfl | omega)
                   · have e2 : rTrace σq (szT wd.1) := by
                       unfold szT
                       repeat (first | rw [if_pos (by omega)] | rw [if_neg (by omega)])
                       have z := hTq
                       simp only [List.append_assoc, List.cons_append, List.nil_append] at z ⊢
                       exact z
                     exact e2)
              · skip
                refine dt_iload dX12_sizeOf_97 rfl ?_
                refine dt_iload dX12_sizeOf_99 rfl ?_
                refine dt_isub dX12_sizeOf_101 ?_
                refine dt_goto (tgt := 112) dX12_sizeOf_102 (by decide) ?_
                refine dt_iret dX12_sizeOf_112 rfl (by decide) (by decide) ?_
                first
                | (exfalso; omega)
                | (refine ⟨dt_ie ?_, rfl, Gq, ?_⟩
                   · unfold szV
                     repeat (first | rw [if_pos (by omega)] | rw [if_neg (by omega)])
                     try (first | rfl | omega)
                   · have e2 : rTrace σq (szT wd.1) := by
                       unfold szT
                       repeat (first | rw [if_pos (by omega)] | rw [if_neg (by omega)])
                       have z := hTq
                       simp only [List.append_assoc, List.cons_append, List.nil_append] at z ⊢
                       exact z
                     exact e2)
            · skip
              refine dt_iload dX12_sizeOf_84 rfl ?_
              refine dt_iload dX12_sizeOf_86 rfl ?_
              refine dt_iadd dX12_sizeOf_88 ?_
              refine dt_goto (tgt := 112) dX12_sizeOf_89 (by decide) ?_
              refine dt_iret dX12_sizeOf_112 rfl (by decide) (by decide) ?_
              first
              | (exfalso; omega)
              | (refine ⟨dt_ie ?_, rfl, Gq, ?_⟩
                 · unfold szV
                   repeat (first | rw [if_pos (by omega)] | rw [if_neg (by omega)])
                   try (first | rfl | omega)
                 · have e2 : rTrace σq (szT wd.1) := by
                     unfold szT
                     repeat (first | rw [if_pos (by omega)] | rw [if_neg (by omega)])
                     have z := hTq
                     simp only [List.append_assoc, List.cons_append, List.nil_append] at z ⊢
                     exact z
                   exact e2)
          · skip
            refine dt_iload dX12_sizeOf_70 rfl ?_
            refine dt_uineg dX12_sizeOf_72 ?_
            refine dt_iload dX12_sizeOf_73 rfl ?_
            refine dt_isub dX12_sizeOf_75 ?_
            refine dt_goto (tgt := 112) dX12_sizeOf_76 (by decide) ?_
            refine dt_iret dX12_sizeOf_112 rfl (by decide) (by decide) ?_
            first
            | (exfalso; omega)
            | (refine ⟨dt_ie ?_, rfl, Gq, ?_⟩
               · unfold szV
                 repeat (first | rw [if_pos (by omega)] | rw [if_neg (by omega)])
                 try (first | rfl | omega)
               · have e2 : rTrace σq (szT wd.1) := by
                   unfold szT
                   repeat (first | rw [if_pos (by omega)] | rw [if_neg (by omega)])
                   have z := hTq
                   simp only [List.append_assoc, List.cons_append, List.nil_append] at z ⊢
                   exact z
                 exact e2)
        · skip
          refine dt_bipush dX12_sizeOf_39 (by decide) ?_
          refine dt_goto (tgt := 46) dX12_sizeOf_41 (by decide) ?_
          refine dt_xV dX12_sizeOf_46 pc_X12_309 rfl (s_X12_began hT30 (by first | omega | (simp only [List.length_append, List.length_cons, List.length_nil]; omega)) (by decide)) rfl rfl ⟨by decide, by decide⟩ rfl rfl (Nat.le_of_ble_eq_true rfl) ⟨by decide, by decide⟩ ?_
          intro v46 sh46 σ46 hq46
          obtain ⟨rfl, hs46, hf46, hT46⟩ := hq46
          obtain rfl := hs46.symm
          have G46 := G30.tr hf46
          refine dt_aloadn dX12_sizeOf_49 rfl rfl ?_
          refine dt_iloadn dX12_sizeOf_50 rfl rfl ?_
          refine dt_iloadn dX12_sizeOf_51 rfl rfl ?_
          refine dt_xV dX12_sizeOf_52 pc_X12_312 rfl (s_X12_plainSize (G46.X hX) hw hT46 (by first | omega | (simp only [List.length_append, List.length_cons, List.length_nil]; omega))) rfl rfl ⟨by decide, by decide⟩ rfl rfl (Nat.le_of_ble_eq_true rfl) ⟨by decide, by decide⟩ ?_
          intro vp shp σp hqp
          obtain ⟨rfl, hsp, hfp, hTp⟩ := hqp
          obtain rfl := hsp.symm
          have Gp := G46.tr hfp
          refine dt_istore dX12_sizeOf_55 (by decide) rfl ?_
          dsimp only [List.set]
          refine dt_aloadn dX12_sizeOf_57 rfl rfl ?_
          refine dt_iloadn dX12_sizeOf_58 rfl rfl ?_
          refine dt_iloadn dX12_sizeOf_59 rfl rfl ?_
          refine dt_xV dX12_sizeOf_60 pc_X12_315 rfl (s_X12_markOf (Gp.X hX) hw hTp (by first | omega | (simp only [List.length_append, List.length_cons, List.length_nil]; omega))) rfl rfl ⟨by decide, by decide⟩ rfl rfl (Nat.le_of_ble_eq_true rfl) ⟨by decide, by decide⟩ ?_
          intro vq shq σq hqq
          obtain ⟨rfl, hsq, hfq, hTq⟩ := hqq
          obtain rfl := hsq.symm
          have Gq := Gp.tr hfq
          refine dt_istore dX12_sizeOf_63 (by decide) rfl ?_
          dsimp only [List.set]
          refine dt_iloadn dX12_sizeOf_65 rfl rfl ?_
          refine dt_iconst dX12_sizeOf_66 ?_
          refine dt_cm_ne (tgt := 79) dX12_sizeOf_67 (by decide) (by first | assumption | exact hwf _ _ | exact dt_b32 _ | omega | exact ⟨by omega, by omega⟩ | decide | exact ⟨by simp (disch := omega) only [dt_up_s, dt_up_k, dt_up_n]; omega, by simp (disch := omega) only [dt_up_s, dt_up_k, dt_up_n]; omega⟩) (by first | assumption | exact hwf _ _ | exact dt_b32 _ | omega | exact ⟨by omega, by omega⟩ | decide | exact ⟨by simp (disch := omega) only [dt_up_s, dt_up_k, dt_up_n]; omega, by simp (disch := omega) only [dt_up_s, dt_up_k, dt_up_n]; omega⟩) (fun c37 => ?_) (fun c37 => ?_)
          · skip
            refine dt_iloadn dX12_sizeOf_79 rfl rfl ?_
            refine dt_iconst dX12_sizeOf_80 ?_
            refine dt_cm_ge (tgt := 92) dX12_sizeOf_81 (by decide) (by first | assumption | exact hwf _ _ | exact dt_b32 _ | omega | exact ⟨by omega, by omega⟩ | decide | exact ⟨by simp (disch := omega) only [dt_up_s, dt_up_k, dt_up_n]; omega, by simp (disch := omega) only [dt_up_s, dt_up_k, dt_up_n]; omega⟩) (by first | assumption | exact hwf _ _ | exact dt_b32 _ | omega | exact ⟨by omega, by omega⟩ | decide | exact ⟨by simp (disch := omega) only [dt_up_s, dt_up_k, dt_up_n]; omega, by simp (disch := omega) only [dt_up_s, dt_up_k, dt_up_n]; omega⟩) (fun c38 => ?_) (fun c38 => ?_)
            · skip
              refine dt_iloadn dX12_sizeOf_92 rfl rfl ?_
              refine dt_iconst dX12_sizeOf_93 ?_
              refine dt_cm_ne (tgt := 105) dX12_sizeOf_94 (by decide) (by first | assumption | exact hwf _ _ | exact dt_b32 _ | omega | exact ⟨by omega, by omega⟩ | decide | exact ⟨by simp (disch := omega) only [dt_up_s, dt_up_k, dt_up_n]; omega, by simp (disch := omega) only [dt_up_s, dt_up_k, dt_up_n]; omega⟩) (by first | assumption | exact hwf _ _ | exact dt_b32 _ | omega | exact ⟨by omega, by omega⟩ | decide | exact ⟨by simp (disch := omega) only [dt_up_s, dt_up_k, dt_up_n]; omega, by simp (disch := omega) only [dt_up_s, dt_up_k, dt_up_n]; omega⟩) (fun c39 => ?_) (fun c39 => ?_)
              · skip
                refine dt_iconst dX12_sizeOf_105 ?_
                refine dt_iload dX12_sizeOf_106 rfl ?_
                refine dt_iload dX12_sizeOf_108 rfl ?_
                refine dt_isub dX12_sizeOf_110 ?_
                refine dt_imul dX12_sizeOf_111 ?_
                refine dt_iret dX12_sizeOf_112 rfl (by decide) (by decide) ?_
                first
                | (exfalso; omega)
                | (refine ⟨dt_ie ?_, rfl, Gq, ?_⟩
                   · unfold szV
                     repeat (first | rw [if_pos (by omega)] | rw [if_neg (by omega)])
                     try (first | rfl | omega)
                   · have e2 : rTrace σq (szT wd.1) := by
                       unfold szT
                       repeat (first | rw [if_pos (by omega)] | rw [if_neg (by omega)])
                       have z := hTq
                       simp only [List.append_assoc, List.cons_append, List.nil_append] at z ⊢
                       exact z
                     exact e2)
              · skip
                refine dt_iload dX12_sizeOf_97 rfl ?_
                refine dt_iload dX12_sizeOf_99 rfl ?_
                refine dt_isub dX12_sizeOf_101 ?_
                refine dt_goto (tgt := 112) dX12_sizeOf_102 (by decide) ?_
                refine dt_iret dX12_sizeOf_112 rfl (by decide) (by decide) ?_
                first
                | (exfalso; omega)
                | (refine ⟨dt_ie ?_, rfl, Gq, ?_⟩
                   · unfold szV
                     repeat (first | rw [if_pos (by omega)] | rw [if_neg (by omega)])
                     try (first | rfl | omega)
                   · have e2 : rTrace σq (szT wd.1) := by
                       unfold szT
                       repeat (first | rw [if_pos (by omega)] | rw [if_neg (by omega)])
                       have z := hTq
                       simp only [List.append_assoc, List.cons_append, List.nil_append] at z ⊢
                       exact z
                     exact e2)
            · skip
              refine dt_iload dX12_sizeOf_84 rfl ?_
              refine dt_iload dX12_sizeOf_86 rfl ?_
              refine dt_iadd dX12_sizeOf_88 ?_
              refine dt_goto (tgt := 112) dX12_sizeOf_89 (by decide) ?_
              refine dt_iret dX12_sizeOf_112 rfl (by decide) (by decide) ?_
              first
              | (exfalso; omega)
              | (refine ⟨dt_ie ?_, rfl, Gq, ?_⟩
                 · unfold szV
                   repeat (first | rw [if_pos (by omega)] | rw [if_neg (by omega)])
                   try (first | rfl | omega)
                 · have e2 : rTrace σq (szT wd.1) := by
                     unfold szT
                     repeat (first | rw [if_pos (by omega)] | rw [if_neg (by omega)])
                     have z := hTq
                     simp only [List.append_assoc, List.cons_append, List.nil_append] at z ⊢
                     exact z
                   exact e2)
          · skip
            refine dt_iload dX12_sizeOf_70 rfl ?_
            refine dt_uineg dX12_sizeOf_72 ?_
            refine dt_iload dX12_sizeOf_73 rfl ?_
            refine dt_isub dX12_sizeOf_75 ?_
            refine dt_goto (tgt := 112) dX12_sizeOf_76 (by decide) ?_
            refine dt_iret dX12_sizeOf_112 rfl (by decide) (by decide) ?_
            first
            | (exfalso; omega)
            | (refine ⟨dt_ie ?_, rfl, Gq, ?_⟩
               · unfold szV
                 repeat (first | rw [if_pos (by omega)] | rw [if_neg (by omega)])
                 try (first | rfl | omega)
               · have e2 : rTrace σq (szT wd.1) := by
                   unfold szT
                   repeat (first | rw [if_pos (by omega)] | rw [if_neg (by omega)])
                   have z := hTq
                   simp only [List.append_assoc, List.cons_append, List.nil_append] at z ⊢
                   exact z
                 exact e2)
theorem s_X12_isOf {sh : List dt_Shp} {σ : dt_Mem} {a b : Int} (h1 : dt_in32 a) (h2 : dt_in32 b) : dt_Sp mX12_isOf 0 0 0 [dt_I a, dt_I b] sh σ (fun v sh2 σ2 => v = some (dt_I (dt_b (kOf a b))) ∧ sh2 = sh ∧ σ2 = σ) := by
  refine dt_Sp_of (by decide) (Nat.le_of_ble_eq_true rfl) ?_
  refine dt_wfV fun hwf => ?_
  show dt_V _ _ _ 0 0 0 [some (dt_I a), some (dt_I b)] [] _ _
  refine dt_iloadn dX12_isOf_0 rfl rfl ?_
  refine dt_if_eq (tgt := 39) dX12_isOf_1 (by decide) (by first | assumption | exact hwf _ _ | exact dt_b32 _ | omega | exact ⟨by omega, by omega⟩ | decide | exact ⟨by simp (disch := omega) only [dt_up_s, dt_up_k, dt_up_n]; omega, by simp (disch := omega) only [dt_up_s, dt_up_k, dt_up_n]; omega⟩) (fun c1 => ?_) (fun c1 => ?_)
  · skip
    refine dt_iconst dX12_isOf_39 ?_
    refine dt_goto (tgt := 44) dX12_isOf_40 (by decide) ?_
    refine dt_zret dX12_isOf_44 rfl (by decide) (by decide) (by first | exact Or.inl rfl | exact Or.inr rfl | assumption | omega) ?_
    first | (rw [dt_bT (show kOf a b by unfold kOf; omega)]; exact ⟨rfl, rfl, rfl⟩) | (rw [dt_bF (show ¬ kOf a b by unfold kOf; omega)]; exact ⟨rfl, rfl, rfl⟩)
  · skip
    refine dt_iloadn dX12_isOf_4 rfl rfl ?_
    refine dt_iloadn dX12_isOf_5 rfl rfl ?_
    refine dt_cm_eq (tgt := 39) dX12_isOf_6 (by decide) (by first | assumption | exact hwf _ _ | exact dt_b32 _ | omega | exact ⟨by omega, by omega⟩ | decide | exact ⟨by simp (disch := omega) only [dt_up_s, dt_up_k, dt_up_n]; omega, by simp (disch := omega) only [dt_up_s, dt_up_k, dt_up_n]; omega⟩) (by first | assumption | exact hwf _ _ | exact dt_b32 _ | omega | exact ⟨by omega, by omega⟩ | decide | exact ⟨by simp (disch := omega) only [dt_up_s, dt_up_k, dt_up_n]; omega, by simp (disch := omega) only [dt_up_s, dt_up_k, dt_up_n]; omega⟩) (fun c2 => ?_) (fun c2 => ?_)
    · skip
      refine dt_iconst dX12_isOf_39 ?_
      refine dt_goto (tgt := 44) dX12_isOf_40 (by decide) ?_
      refine dt_zret dX12_isOf_44 rfl (by decide) (by decide) (by first | exact Or.inl rfl | exact Or.inr rfl | assumption | omega) ?_
      first | (rw [dt_bT (show kOf a b by unfold kOf; omega)]; exact ⟨rfl, rfl, rfl⟩) | (rw [dt_bF (show ¬ kOf a b by unfold kOf; omega)]; exact ⟨rfl, rfl, rfl⟩)
    · skip
      refine dt_iloadn dX12_isOf_9 rfl rfl ?_
      refine dt_iconst dX12_isOf_10 ?_
      refine dt_cm_ne (tgt := 19) dX12_isOf_11 (by decide) (by first | assumption | exact hwf _ _ | exact dt_b32 _ | omega | exact ⟨by omega, by omega⟩ | decide | exact ⟨by simp (disch := omega) only [dt_up_s, dt_up_k, dt_up_n]; omega, by simp (disch := omega) only [dt_up_s, dt_up_k, dt_up_n]; omega⟩) (by first | assumption | exact hwf _ _ | exact dt_b32 _ | omega | exact ⟨by omega, by omega⟩ | decide | exact ⟨by simp (disch := omega) only [dt_up_s, dt_up_k, dt_up_n]; omega, by simp (disch := omega) only [dt_up_s, dt_up_k, dt_up_n]; omega⟩) (fun c3 => ?_) (fun c3 => ?_)
      · skip
        refine dt_iloadn dX12_isOf_19 rfl rfl ?_
        refine dt_iconst dX12_isOf_20 ?_
        refine dt_cm_ne (tgt := 29) dX12_isOf_21 (by decide) (by first | assumption | exact hwf _ _ | exact dt_b32 _ | omega | exact ⟨by omega, by omega⟩ | decide | exact ⟨by simp (disch := omega) only [dt_up_s, dt_up_k, dt_up_n]; omega, by simp (disch := omega) only [dt_up_s, dt_up_k, dt_up_n]; omega⟩) (by first | assumption | exact hwf _ _ | exact dt_b32 _ | omega | exact ⟨by omega, by omega⟩ | decide | exact ⟨by simp (disch := omega) only [dt_up_s, dt_up_k, dt_up_n]; omega, by simp (disch := omega) only [dt_up_s, dt_up_k, dt_up_n]; omega⟩) (fun c4 => ?_) (fun c4 => ?_)
        · skip
          refine dt_iloadn dX12_isOf_29 rfl rfl ?_
          refine dt_iconst dX12_isOf_30 ?_
          refine dt_cm_ne (tgt := 43) dX12_isOf_31 (by decide) (by first | assumption | exact hwf _ _ | exact dt_b32 _ | omega | exact ⟨by omega, by omega⟩ | decide | exact ⟨by simp (disch := omega) only [dt_up_s, dt_up_k, dt_up_n]; omega, by simp (disch := omega) only [dt_up_s, dt_up_k, dt_up_n]; omega⟩) (by first | assumption | exact hwf _ _ | exact dt_b32 _ | omega | exact ⟨by omega, by omega⟩ | decide | exact ⟨by simp (disch := omega) only [dt_up_s, dt_up_k, dt_up_n]; omega, by simp (disch := omega) only [dt_up_s, dt_up_k, dt_up_n]; omega⟩) (fun c5 => ?_) (fun c5 => ?_)
          · skip
            refine dt_iconst dX12_isOf_43 ?_
            refine dt_zret dX12_isOf_44 rfl (by decide) (by decide) (by first | exact Or.inl rfl | exact Or.inr rfl | assumption | omega) ?_
            first | (rw [dt_bT (show kOf a b by unfold kOf; omega)]; exact ⟨rfl, rfl, rfl⟩) | (rw [dt_bF (show ¬ kOf a b by unfold kOf; omega)]; exact ⟨rfl, rfl, rfl⟩)
          · skip
            refine dt_iloadn dX12_isOf_34 rfl rfl ?_
            refine dt_iconst dX12_isOf_35 ?_
            refine dt_cm_ne (tgt := 43) dX12_isOf_36 (by decide) (by first | assumption | exact hwf _ _ | exact dt_b32 _ | omega | exact ⟨by omega, by omega⟩ | decide | exact ⟨by simp (disch := omega) only [dt_up_s, dt_up_k, dt_up_n]; omega, by simp (disch := omega) only [dt_up_s, dt_up_k, dt_up_n]; omega⟩) (by first | assumption | exact hwf _ _ | exact dt_b32 _ | omega | exact ⟨by omega, by omega⟩ | decide | exact ⟨by simp (disch := omega) only [dt_up_s, dt_up_k, dt_up_n]; omega, by simp (disch := omega) only [dt_up_s, dt_up_k, dt_up_n]; omega⟩) (fun c6 => ?_) (fun c6 => ?_)
            · skip
              refine dt_iconst dX12_isOf_43 ?_
              refine dt_zret dX12_isOf_44 rfl (by decide) (by decide) (by first | exact Or.inl rfl | exact Or.inr rfl | assumption | omega) ?_
              first | (rw [dt_bT (show kOf a b by unfold kOf; omega)]; exact ⟨rfl, rfl, rfl⟩) | (rw [dt_bF (show ¬ kOf a b by unfold kOf; omega)]; exact ⟨rfl, rfl, rfl⟩)
            · skip
              refine dt_iconst dX12_isOf_39 ?_
              refine dt_goto (tgt := 44) dX12_isOf_40 (by decide) ?_
              refine dt_zret dX12_isOf_44 rfl (by decide) (by decide) (by first | exact Or.inl rfl | exact Or.inr rfl | assumption | omega) ?_
              first | (rw [dt_bT (show kOf a b by unfold kOf; omega)]; exact ⟨rfl, rfl, rfl⟩) | (rw [dt_bF (show ¬ kOf a b by unfold kOf; omega)]; exact ⟨rfl, rfl, rfl⟩)
        · skip
          refine dt_iloadn dX12_isOf_24 rfl rfl ?_
          refine dt_iconst dX12_isOf_25 ?_
          refine dt_cm_eq (tgt := 39) dX12_isOf_26 (by decide) (by first | assumption | exact hwf _ _ | exact dt_b32 _ | omega | exact ⟨by omega, by omega⟩ | decide | exact ⟨by simp (disch := omega) only [dt_up_s, dt_up_k, dt_up_n]; omega, by simp (disch := omega) only [dt_up_s, dt_up_k, dt_up_n]; omega⟩) (by first | assumption | exact hwf _ _ | exact dt_b32 _ | omega | exact ⟨by omega, by omega⟩ | decide | exact ⟨by simp (disch := omega) only [dt_up_s, dt_up_k, dt_up_n]; omega, by simp (disch := omega) only [dt_up_s, dt_up_k, dt_up_n]; omega⟩) (fun c7 => ?_) (fun c7 => ?_)
          · skip
            refine dt_iconst dX12_isOf_39 ?_
            refine dt_goto (tgt := 44) dX12_isOf_40 (by decide) ?_
            refine dt_zret dX12_isOf_44 rfl (by decide) (by decide) (by first | exact Or.inl rfl | exact Or.inr rfl | assumption | omega) ?_
            first | (rw [dt_bT (show kOf a b by unfold kOf; omega)]; exact ⟨rfl, rfl, rfl⟩) | (rw [dt_bF (show ¬ kOf a b by unfold kOf; omega)]; exact ⟨rfl, rfl, rfl⟩)
          · skip
            refine dt_iloadn dX12_isOf_29 rfl rfl ?_
            refine dt_iconst dX12_isOf_30 ?_
            refine dt_cm_ne (tgt := 43) dX12_isOf_31 (by decide) (by first | assumption | exact hwf _ _ | exact dt_b32 _ | omega | exact ⟨by omega, by omega⟩ | decide | exact ⟨by simp (disch := omega) only [dt_up_s, dt_up_k, dt_up_n]; omega, by simp (disch := omega) only [dt_up_s, dt_up_k, dt_up_n]; omega⟩) (by first | assumption | exact hwf _ _ | exact dt_b32 _ | omega | exact ⟨by omega, by omega⟩ | decide | exact ⟨by simp (disch := omega) only [dt_up_s, dt_up_k, dt_up_n]; omega, by simp (disch := omega) only [dt_up_s, dt_up_k, dt_up_n]; omega⟩) (fun c8 => ?_) (fun c8 => ?_)
            · skip
              refine dt_iconst dX12_isOf_43 ?_
              refine dt_zret dX12_isOf_44 rfl (by decide) (by decide) (by first | exact Or.inl rfl | exact Or.inr rfl | assumption | omega) ?_
              first | (rw [dt_bT (show kOf a b by unfold kOf; omega)]; exact ⟨rfl, rfl, rfl⟩) | (rw [dt_bF (show ¬ kOf a b by unfold kOf; omega)]; exact ⟨rfl, rfl, rfl⟩)
            · skip
              refine dt_iloadn dX12_isOf_34 rfl rfl ?_
              refine dt_iconst dX12_isOf_35 ?_
              refine dt_cm_ne (tgt := 43) dX12_isOf_36 (by decide) (by first | assumption | exact hwf _ _ | exact dt_b32 _ | omega | exact ⟨by omega, by omega⟩ | decide | exact ⟨by simp (disch := omega) only [dt_up_s, dt_up_k, dt_up_n]; omega, by simp (disch := omega) only [dt_up_s, dt_up_k, dt_up_n]; omega⟩) (by first | assumption | exact hwf _ _ | exact dt_b32 _ | omega | exact ⟨by omega, by omega⟩ | decide | exact ⟨by simp (disch := omega) only [dt_up_s, dt_up_k, dt_up_n]; omega, by simp (disch := omega) only [dt_up_s, dt_up_k, dt_up_n]; omega⟩) (fun c9 => ?_) (fun c9 => ?_)
              · skip
                refine dt_iconst dX12_isOf_43 ?_
                refine dt_zret dX12_isOf_44 rfl (by decide) (by decide) (by first | exact Or.inl rfl | exact Or.inr rfl | assumption | omega) ?_
                first | (rw [dt_bT (show kOf a b by unfold kOf; omega)]; exact ⟨rfl, rfl, rfl⟩) | (rw [dt_bF (show ¬ kOf a b by unfold kOf; omega)]; exact ⟨rfl, rfl, rfl⟩)
              · skip
                refine dt_iconst dX12_isOf_39 ?_
                refine dt_goto (tgt := 44) dX12_isOf_40 (by decide) ?_
                refine dt_zret dX12_isOf_44 rfl (by decide) (by decide) (by first | exact Or.inl rfl | exact Or.inr rfl | assumption | omega) ?_
                first | (rw [dt_bT (show kOf a b by unfold kOf; omega)]; exact ⟨rfl, rfl, rfl⟩) | (rw [dt_bF (show ¬ kOf a b by unfold kOf; omega)]; exact ⟨rfl, rfl, rfl⟩)
      · skip
        refine dt_iloadn dX12_isOf_14 rfl rfl ?_
        refine dt_iconst dX12_isOf_15 ?_
        refine dt_cm_lt (tgt := 39) dX12_isOf_16 (by decide) (by first | assumption | exact hwf _ _ | exact dt_b32 _ | omega | exact ⟨by omega, by omega⟩ | decide | exact ⟨by simp (disch := omega) only [dt_up_s, dt_up_k, dt_up_n]; omega, by simp (disch := omega) only [dt_up_s, dt_up_k, dt_up_n]; omega⟩) (by first | assumption | exact hwf _ _ | exact dt_b32 _ | omega | exact ⟨by omega, by omega⟩ | decide | exact ⟨by simp (disch := omega) only [dt_up_s, dt_up_k, dt_up_n]; omega, by simp (disch := omega) only [dt_up_s, dt_up_k, dt_up_n]; omega⟩) (fun c10 => ?_) (fun c10 => ?_)
        · skip
          refine dt_iconst dX12_isOf_39 ?_
          refine dt_goto (tgt := 44) dX12_isOf_40 (by decide) ?_
          refine dt_zret dX12_isOf_44 rfl (by decide) (by decide) (by first | exact Or.inl rfl | exact Or.inr rfl | assumption | omega) ?_
          first | (rw [dt_bT (show kOf a b by unfold kOf; omega)]; exact ⟨rfl, rfl, rfl⟩) | (rw [dt_bF (show ¬ kOf a b by unfold kOf; omega)]; exact ⟨rfl, rfl, rfl⟩)
        · skip
          refine dt_iloadn dX12_isOf_19 rfl rfl ?_
          refine dt_iconst dX12_isOf_20 ?_
          refine dt_cm_ne (tgt := 29) dX12_isOf_21 (by decide) (by first | assumption | exact hwf _ _ | exact dt_b32 _ | omega | exact ⟨by omega, by omega⟩ | decide | exact ⟨by simp (disch := omega) only [dt_up_s, dt_up_k, dt_up_n]; omega, by simp (disch := omega) only [dt_up_s, dt_up_k, dt_up_n]; omega⟩) (by first | assumption | exact hwf _ _ | exact dt_b32 _ | omega | exact ⟨by omega, by omega⟩ | decide | exact ⟨by simp (disch := omega) only [dt_up_s, dt_up_k, dt_up_n]; omega, by simp (disch := omega) only [dt_up_s, dt_up_k, dt_up_n]; omega⟩) (fun c11 => ?_) (fun c11 => ?_)
          · skip
            refine dt_iloadn dX12_isOf_29 rfl rfl ?_
            refine dt_iconst dX12_isOf_30 ?_
            refine dt_cm_ne (tgt := 43) dX12_isOf_31 (by decide) (by first | assumption | exact hwf _ _ | exact dt_b32 _ | omega | exact ⟨by omega, by omega⟩ | decide | exact ⟨by simp (disch := omega) only [dt_up_s, dt_up_k, dt_up_n]; omega, by simp (disch := omega) only [dt_up_s, dt_up_k, dt_up_n]; omega⟩) (by first | assumption | exact hwf _ _ | exact dt_b32 _ | omega | exact ⟨by omega, by omega⟩ | decide | exact ⟨by simp (disch := omega) only [dt_up_s, dt_up_k, dt_up_n]; omega, by simp (disch := omega) only [dt_up_s, dt_up_k, dt_up_n]; omega⟩) (fun c12 => ?_) (fun c12 => ?_)
            · skip
              refine dt_iconst dX12_isOf_43 ?_
              refine dt_zret dX12_isOf_44 rfl (by decide) (by decide) (by first | exact Or.inl rfl | exact Or.inr rfl | assumption | omega) ?_
              first | (rw [dt_bT (show kOf a b by unfold kOf; omega)]; exact ⟨rfl, rfl, rfl⟩) | (rw [dt_bF (show ¬ kOf a b by unfold kOf; omega)]; exact ⟨rfl, rfl, rfl⟩)
            · skip
              refine dt_iloadn dX12_isOf_34 rfl rfl ?_
              refine dt_iconst dX12_isOf_35 ?_
              refine dt_cm_ne (tgt := 43) dX12_isOf_36 (by decide) (by first | assumption | exact hwf _ _ | exact dt_b32 _ | omega | exact ⟨by omega, by omega⟩ | decide | exact ⟨by simp (disch := omega) only [dt_up_s, dt_up_k, dt_up_n]; omega, by simp (disch := omega) only [dt_up_s, dt_up_k, dt_up_n]; omega⟩) (by first | assumption | exact hwf _ _ | exact dt_b32 _ | omega | exact ⟨by omega, by omega⟩ | decide | exact ⟨by simp (disch := omega) only [dt_up_s, dt_up_k, dt_up_n]; omega, by simp (disch := omega) only [dt_up_s, dt_up_k, dt_up_n]; omega⟩) (fun c13 => ?_) (fun c13 => ?_)
              · skip
                refine dt_iconst dX12_isOf_43 ?_
                refine dt_zret dX12_isOf_44 rfl (by decide) (by decide) (by first | exact Or.inl rfl | exact Or.inr rfl | assumption | omega) ?_
                first | (rw [dt_bT (show kOf a b by unfold kOf; omega)]; exact ⟨rfl, rfl, rfl⟩) | (rw [dt_bF (show ¬ kOf a b by unfold kOf; omega)]; exact ⟨rfl, rfl, rfl⟩)
              · skip
                refine dt_iconst dX12_isOf_39 ?_
                refine dt_goto (tgt := 44) dX12_isOf_40 (by decide) ?_
                refine dt_zret dX12_isOf_44 rfl (by decide) (by decide) (by first | exact Or.inl rfl | exact Or.inr rfl | assumption | omega) ?_
                first | (rw [dt_bT (show kOf a b by unfold kOf; omega)]; exact ⟨rfl, rfl, rfl⟩) | (rw [dt_bF (show ¬ kOf a b by unfold kOf; omega)]; exact ⟨rfl, rfl, rfl⟩)
          · skip
            refine dt_iloadn dX12_isOf_24 rfl rfl ?_
            refine dt_iconst dX12_isOf_25 ?_
            refine dt_cm_eq (tgt := 39) dX12_isOf_26 (by decide) (by first | assumption | exact hwf _ _ | exact dt_b32 _ | omega | exact ⟨by omega, by omega⟩ | decide | exact ⟨by simp (disch := omega) only [dt_up_s, dt_up_k, dt_up_n]; omega, by simp (disch := omega) only [dt_up_s, dt_up_k, dt_up_n]; omega⟩) (by first | assumption | exact hwf _ _ | exact dt_b32 _ | omega | exact ⟨by omega, by omega⟩ | decide | exact ⟨by simp (disch := omega) only [dt_up_s, dt_up_k, dt_up_n]; omega, by simp (disch := omega) only [dt_up_s, dt_up_k, dt_up_n]; omega⟩) (fun c14 => ?_) (fun c14 => ?_)
            · skip
              refine dt_iconst dX12_isOf_39 ?_
              refine dt_goto (tgt := 44) dX12_isOf_40 (by decide) ?_
              refine dt_zret dX12_isOf_44 rfl (by decide) (by decide) (by first | exact Or.inl rfl | exact Or.inr rfl | assumption | omega) ?_
              first | (rw [dt_bT (show kOf a b by unfold kOf; omega)]; exact ⟨rfl, rfl, rfl⟩) | (rw [dt_bF (show ¬ kOf a b by unfold kOf; omega)]; exact ⟨rfl, rfl, rfl⟩)
            · skip
              refine dt_iloadn dX12_isOf_29 rfl rfl ?_
              refine dt_iconst dX12_isOf_30 ?_
              refine dt_cm_ne (tgt := 43) dX12_isOf_31 (by decide) (by first | assumption | exact hwf _ _ | exact dt_b32 _ | omega | exact ⟨by omega, by omega⟩ | decide | exact ⟨by simp (disch := omega) only [dt_up_s, dt_up_k, dt_up_n]; omega, by simp (disch := omega) only [dt_up_s, dt_up_k, dt_up_n]; omega⟩) (by first | assumption | exact hwf _ _ | exact dt_b32 _ | omega | exact ⟨by omega, by omega⟩ | decide | exact ⟨by simp (disch := omega) only [dt_up_s, dt_up_k, dt_up_n]; omega, by simp (disch := omega) only [dt_up_s, dt_up_k, dt_up_n]; omega⟩) (fun c15 => ?_) (fun c15 => ?_)
              · skip
                refine dt_iconst dX12_isOf_43 ?_
                refine dt_zret dX12_isOf_44 rfl (by decide) (by decide) (by first | exact Or.inl rfl | exact Or.inr rfl | assumption | omega) ?_
                first | (rw [dt_bT (show kOf a b by unfold kOf; omega)]; exact ⟨rfl, rfl, rfl⟩) | (rw [dt_bF (show ¬ kOf a b by unfold kOf; omega)]; exact ⟨rfl, rfl, rfl⟩)
              · skip
                refine dt_iloadn dX12_isOf_34 rfl rfl ?_
                refine dt_iconst dX12_isOf_35 ?_
                refine dt_cm_ne (tgt := 43) dX12_isOf_36 (by decide) (by first | assumption | exact hwf _ _ | exact dt_b32 _ | omega | exact ⟨by omega, by omega⟩ | decide | exact ⟨by simp (disch := omega) only [dt_up_s, dt_up_k, dt_up_n]; omega, by simp (disch := omega) only [dt_up_s, dt_up_k, dt_up_n]; omega⟩) (by first | assumption | exact hwf _ _ | exact dt_b32 _ | omega | exact ⟨by omega, by omega⟩ | decide | exact ⟨by simp (disch := omega) only [dt_up_s, dt_up_k, dt_up_n]; omega, by simp (disch := omega) only [dt_up_s, dt_up_k, dt_up_n]; omega⟩) (fun c16 => ?_) (fun c16 => ?_)
                · skip
                  refine dt_iconst dX12_isOf_43 ?_
                  refine dt_zret dX12_isOf_44 rfl (by decide) (by decide) (by first | exact Or.inl rfl | exact Or.inr rfl | assumption | omega) ?_
                  first | (rw [dt_bT (show kOf a b by unfold kOf; omega)]; exact ⟨rfl, rfl, rfl⟩) | (rw [dt_bF (show ¬ kOf a b by unfold kOf; omega)]; exact ⟨rfl, rfl, rfl⟩)
                · skip
                  refine dt_iconst dX12_isOf_39 ?_
                  refine dt_goto (tgt := 44) dX12_isOf_40 (by decide) ?_
                  refine dt_zret dX12_isOf_44 rfl (by decide) (by decide) (by first | exact Or.inl rfl | exact Or.inr rfl | assumption | omega) ?_
                  first | (rw [dt_bT (show kOf a b by unfold kOf; omega)]; exact ⟨rfl, rfl, rfl⟩) | (rw [dt_bF (show ¬ kOf a b by unfold kOf; omega)]; exact ⟨rfl, rfl, rfl⟩)
theorem s_X12_trace {ex : List dt_Shp} {σ : dt_Mem} {A : dS} {i : Int} (hI : rInv σ A) (h_i : dt_in32 i) (hok : dX_ok (sN A)) : dt_Sp mX12_trace 1 0 0 [dt_R 40, dt_I i] (dt_SH ++ ex) σ (fun v sh2 σ2 => v = some (dt_I (oTrace A i).1) ∧ sh2 = dt_SH ++ ex ∧ rEnd σ σ2 (oTrace A i).2) := by
  refine dt_Sp_of (by decide) (Nat.le_of_ble_eq_true rfl) ?_
  refine dt_wfV fun hwf => ?_
  show dt_V _ _ _ 0 0 0 [some (dt_R 40), some (dt_I i)] [] _ _
  refine dt_aloadn dX12_trace_0 rfl rfl ?_
  refine dt_iconst dX12_trace_1 ?_
  refine dt_wfV fun hwf => ?_
  refine dt_putI dX12_trace_2 pw_X12_53_12 rfl rfl (by first | assumption | exact hwf _ _ | exact dt_b32 _ | omega | exact ⟨by omega, by omega⟩ | decide | exact ⟨by simp (disch := omega) only [dt_up_s, dt_up_k, dt_up_n]; omega, by simp (disch := omega) only [dt_up_s, dt_up_k, dt_up_n]; omega⟩) ?_
  obtain ⟨σa, ea⟩ : ∃ z, z = dt_up σ 40 0 0 := ⟨_, rfl⟩
  rw [← ea]
  have hA := hI.up40 0 0 (by decide)
  rw [← ea] at hA
  have fa : ∀ b, (b < 40 ∨ 55 ≤ b) → σa b = σ b := fun b hb => by rw [ea]; exact dt_up_o (by omega)
  clear ea
  refine dt_wfV fun hwf => ?_
  have hX := hA.X hok
  have e0 := hX.t
  have e1 := hX.p
  have e2 := hX.2.1
  have e3 := hX.2.2.2.1
  refine dt_iloadn dX12_trace_5 rfl rfl ?_
  refine dt_ui2l dX12_trace_6 (by first | assumption | exact hwf _ _ | exact dt_b32 _ | omega | exact ⟨by omega, by omega⟩ | decide | exact ⟨by simp (disch := omega) only [dt_up_s, dt_up_k, dt_up_n]; omega, by simp (disch := omega) only [dt_up_s, dt_up_k, dt_up_n]; omega⟩) ?_
  refine dt_lconst (x := 0) dX12_trace_7 (by decide) ?_
  refine dt_aloadn dX12_trace_8 rfl rfl ?_
  refine dt_getI dX12_trace_9 pg_X12_306_12 rfl rfl ?_
  rw [(hA.2.2.2.2.2.2.2).1]
  have hcl := hA.2.2.2.2.2.2.2.2.1
  refine dt_iconst dX12_trace_12 ?_
  refine dt_isub dX12_trace_13 ?_
  refine dt_ui2l dX12_trace_14 (by first | assumption | exact hwf _ _ | exact dt_b32 _ | omega | exact ⟨by omega, by omega⟩ | decide | exact ⟨by simp (disch := omega) only [dt_up_s, dt_up_k, dt_up_n]; omega, by simp (disch := omega) only [dt_up_s, dt_up_k, dt_up_n]; omega⟩) ?_
  refine dt_xS dX12_trace_15 pc_X12_63 (s_X12_in (by first | exact ⟨by omega, by omega⟩ | decide) (by first | exact ⟨by omega, by omega⟩ | decide) (by first | exact ⟨by omega, by omega⟩ | decide)) rfl rfl ⟨by decide, by decide⟩ (Nat.le_of_ble_eq_true rfl) ⟨by decide, by decide⟩ (dt_k3 ?_)
  refine dt_if_eq (tgt := 30) dX12_trace_18 (by decide) (by first | assumption | exact hwf _ _ | exact dt_b32 _ | omega | exact ⟨by omega, by omega⟩ | decide | exact ⟨by simp (disch := omega) only [dt_up_s, dt_up_k, dt_up_n]; omega, by simp (disch := omega) only [dt_up_s, dt_up_k, dt_up_n]; omega⟩) (fun c1 => ?_) (fun c1 => ?_)
  · skip
    try simp only [dt_b0, dt_b1, Decidable.not_not, Classical.not_not] at c1
    refine dt_ldc dX12_trace_30 pk_X12_89 ?_
    refine dt_iret dX12_trace_32 rfl (by decide) (by decide) ?_
    refine ⟨?_, rfl, hA, fa⟩
    unfold oTrace
    first
    | (rw [if_pos (by omega), Int.toNat_natCast, dt_gd hx]; done)
    | (rw [if_neg (by omega)]; done)
  · skip
    try simp only [dt_b0, dt_b1, Decidable.not_not, Classical.not_not] at c1
    obtain ⟨i, rfl⟩ : ∃ z : Nat, i = z := ⟨i.toNat, by omega⟩
    obtain ⟨x, hx⟩ := dt_lg (l := sC A) (i := i) (by omega)
    have hv := hA.2.2.2.2.2.2.2.2.2 i x hx
    refine dt_aloadn dX12_trace_21 rfl rfl ?_
    refine dt_getR dX12_trace_22 pg_X12_50_12 rfl rfl ?_
    refine dt_iloadn dX12_trace_25 rfl rfl ?_
    refine dt_iald dX12_trace_26 rfl (by first | omega | (simp (disch := omega) only [dt_up_s, dt_up_k, dt_up_n]; omega)) (by first | omega | (simp (disch := omega) only [dt_up_s, dt_up_k, dt_up_n]; omega)) (by decide) ?_
    rw [Int.toNat_natCast, hv]
    refine dt_goto (tgt := 32) dX12_trace_27 (by decide) ?_
    refine dt_iret dX12_trace_32 rfl (by decide) (by decide) ?_
    refine ⟨?_, rfl, hA, fa⟩
    unfold oTrace
    first
    | (rw [if_pos (by omega), Int.toNat_natCast, dt_gd hx]; done)
    | (rw [if_neg (by omega)]; done)
theorem s_X12_as {ex : List dt_Shp} {σ : dt_Mem} {A : dS} {t w kd : Int} (hI : rInv σ A) (h_t : dt_in32 t) (h_w : dt_in32 w) (h_kd : dt_in32 kd) (hok : dX_ok (sN A)) : dt_Sp mX12_as 3 0 0 [dt_R 40, dt_I t, dt_I w, dt_I kd] (dt_SH ++ ex) σ (fun v sh2 σ2 => v = some (dt_I (oAs A t w kd).1) ∧ sh2 = dt_SH ++ ex ∧ rEnd σ σ2 (oAs A t w kd).2) := by
  refine dt_Sp_of (by decide) (Nat.le_of_ble_eq_true rfl) ?_
  refine dt_wfV fun hwf => ?_
  show dt_V _ _ _ 0 0 0 [some (dt_R 40), some (dt_I t), some (dt_I w), some (dt_I kd)] [] _ _
  refine dt_aloadn dX12_as_0 rfl rfl ?_
  refine dt_iconst dX12_as_1 ?_
  refine dt_wfV fun hwf => ?_
  refine dt_putI dX12_as_2 pw_X12_53_12 rfl rfl (by first | assumption | exact hwf _ _ | exact dt_b32 _ | omega | exact ⟨by omega, by omega⟩ | decide | exact ⟨by simp (disch := omega) only [dt_up_s, dt_up_k, dt_up_n]; omega, by simp (disch := omega) only [dt_up_s, dt_up_k, dt_up_n]; omega⟩) ?_
  obtain ⟨σa, ea⟩ : ∃ z, z = dt_up σ 40 0 0 := ⟨_, rfl⟩
  rw [← ea]
  have hA := hI.up40 0 0 (by decide)
  rw [← ea] at hA
  have fa : ∀ b, (b < 40 ∨ 55 ≤ b) → σa b = σ b := fun b hb => by rw [ea]; exact dt_up_o (by omega)
  clear ea
  refine dt_wfV fun hwf => ?_
  have hX := hA.X hok
  have e0 := hX.t
  have e1 := hX.p
  have e2 := hX.2.1
  have e3 := hX.2.2.2.1
  refine dt_aloadn dX12_as_5 rfl rfl ?_
  refine dt_iloadn dX12_as_6 rfl rfl ?_
  refine dt_iloadn dX12_as_7 rfl rfl ?_
  refine dt_xV dX12_as_8 pc_X12_212 rfl (s_X12_isWord hX (by first | assumption | exact hwf _ _ | exact dt_b32 _ | omega | exact ⟨by omega, by omega⟩ | decide | exact ⟨by simp (disch := omega) only [dt_up_s, dt_up_k, dt_up_n]; omega, by simp (disch := omega) only [dt_up_s, dt_up_k, dt_up_n]; omega⟩) (by first | assumption | exact hwf _ _ | exact dt_b32 _ | omega | exact ⟨by omega, by omega⟩ | decide | exact ⟨by simp (disch := omega) only [dt_up_s, dt_up_k, dt_up_n]; omega, by simp (disch := omega) only [dt_up_s, dt_up_k, dt_up_n]; omega⟩)) rfl rfl ⟨by decide, by decide⟩ rfl rfl (Nat.le_of_ble_eq_true rfl) ⟨by decide, by decide⟩ (dt_k3 ?_)
  refine dt_if_eq (tgt := 26) dX12_as_11 (by decide) (by first | assumption | exact hwf _ _ | exact dt_b32 _ | omega | exact ⟨by omega, by omega⟩ | decide | exact ⟨by simp (disch := omega) only [dt_up_s, dt_up_k, dt_up_n]; omega, by simp (disch := omega) only [dt_up_s, dt_up_k, dt_up_n]; omega⟩) (fun c1 => ?_) (fun c1 => ?_)
  · skip
    try simp only [dt_b0, dt_b1, Decidable.not_not, Classical.not_not] at c1
    have hat := c1
    refine dt_ldc dX12_as_26 pk_X12_73 ?_
    refine dt_iret dX12_as_28 rfl (by decide) (by decide) ?_
    first
    | (have e : oAs A t w kd = (-1000001, A) := by
        unfold oAs
        simp only [hat]
       rw [e]
       exact ⟨rfl, rfl, hA, fa⟩)
    | (have e : oAs A t w kd = (-1000001, A) := by
        unfold oAs
        simp only [hat]
        rw [if_pos (by omega)]
       rw [e]
       exact ⟨rfl, rfl, hA, fa⟩)
  · skip
    try simp only [dt_b0, dt_b1, Decidable.not_not, Classical.not_not] at c1
    obtain ⟨t, w, wd, rfl, rfl, hw⟩ := xAt_ne c1
    obtain ⟨⟨k0, k1, k2, k3⟩, k4, k5, k6⟩ := hX.wd hw
    have hat := xAt_of hw
    have k7 := k3.2.2.1
    have k8 := k3.2.2.2.1
    have k9 := k3.1
    have k10 := k3.2.1
    refine dt_iloadn dX12_as_14 rfl rfl ?_
    refine dt_ui2l dX12_as_15 (by first | assumption | exact hwf _ _ | exact dt_b32 _ | omega | exact ⟨by omega, by omega⟩ | decide | exact ⟨by simp (disch := omega) only [dt_up_s, dt_up_k, dt_up_n]; omega, by simp (disch := omega) only [dt_up_s, dt_up_k, dt_up_n]; omega⟩) ?_
    refine dt_lconst (x := 0) dX12_as_16 (by decide) ?_
    refine dt_ldc2 dX12_as_17 pk_X12_286 ?_
    refine dt_xS dX12_as_20 pc_X12_63 (s_X12_in (by first | exact ⟨by omega, by omega⟩ | decide) (by first | exact ⟨by omega, by omega⟩ | decide) (by first | exact ⟨by omega, by omega⟩ | decide)) rfl rfl ⟨by decide, by decide⟩ (Nat.le_of_ble_eq_true rfl) ⟨by decide, by decide⟩ (dt_k3 ?_)
    refine dt_if_ne (tgt := 29) dX12_as_23 (by decide) (by first | assumption | exact hwf _ _ | exact dt_b32 _ | omega | exact ⟨by omega, by omega⟩ | decide | exact ⟨by simp (disch := omega) only [dt_up_s, dt_up_k, dt_up_n]; omega, by simp (disch := omega) only [dt_up_s, dt_up_k, dt_up_n]; omega⟩) (fun c2 => ?_) (fun c2 => ?_)
    · skip
      try simp only [dt_b0, dt_b1, Decidable.not_not, Classical.not_not] at c2
      have z : 0 ≤ kd ∧ kd ≤ 5 := by omega
      refine dt_aloadn dX12_as_29 rfl rfl ?_
      refine dt_iconst dX12_as_30 ?_
      refine dt_wfV fun hwf => ?_
      refine dt_putI dX12_as_31 pw_X12_57_12 rfl rfl (by first | assumption | exact hwf _ _ | exact dt_b32 _ | omega | exact ⟨by omega, by omega⟩ | decide | exact ⟨by simp (disch := omega) only [dt_up_s, dt_up_k, dt_up_n]; omega, by simp (disch := omega) only [dt_up_s, dt_up_k, dt_up_n]; omega⟩) ?_
      obtain ⟨σb, eb⟩ : ∃ z, z = dt_up σa 40 1 0 := ⟨_, rfl⟩
      rw [← eb]
      have hB := hA.st 0
      rw [← eb] at hB
      have fb : ∀ b, (b < 40 ∨ 55 ≤ b) → σb b = σ b := fun b hb => by rw [eb, dt_up_o (by omega)]; exact fa b hb
      clear eb
      refine dt_wfV fun hwf => ?_
      refine dt_aloadn dX12_as_34 rfl rfl ?_
      refine dt_iloadn dX12_as_35 rfl rfl ?_
      refine dt_iloadn dX12_as_36 rfl rfl ?_
      refine dt_xV dX12_as_37 pc_X12_300 rfl (s_X12_kindOf (hB.X hok) hw) rfl rfl ⟨by decide, by decide⟩ rfl rfl (Nat.le_of_ble_eq_true rfl) ⟨by decide, by decide⟩ (dt_k3 ?_)
      refine dt_iloadn dX12_as_40 rfl rfl ?_
      refine dt_xS dX12_as_41 pc_X12_303 (s_X12_isOf (by first | assumption | exact hwf _ _ | exact dt_b32 _ | omega | exact ⟨by omega, by omega⟩ | decide | exact ⟨by simp (disch := omega) only [dt_up_s, dt_up_k, dt_up_n]; omega, by simp (disch := omega) only [dt_up_s, dt_up_k, dt_up_n]; omega⟩) (by first | assumption | exact hwf _ _ | exact dt_b32 _ | omega | exact ⟨by omega, by omega⟩ | decide | exact ⟨by simp (disch := omega) only [dt_up_s, dt_up_k, dt_up_n]; omega, by simp (disch := omega) only [dt_up_s, dt_up_k, dt_up_n]; omega⟩)) rfl rfl ⟨by decide, by decide⟩ (Nat.le_of_ble_eq_true rfl) ⟨by decide, by decide⟩ (dt_k3 ?_)
      refine dt_if_eq (tgt := 51) dX12_as_44 (by decide) (by first | assumption | exact hwf _ _ | exact dt_b32 _ | omega | exact ⟨by omega, by omega⟩ | decide | exact ⟨by simp (disch := omega) only [dt_up_s, dt_up_k, dt_up_n]; omega, by simp (disch := omega) only [dt_up_s, dt_up_k, dt_up_n]; omega⟩) (fun c3 => ?_) (fun c3 => ?_)
      · skip
        try simp only [dt_b0, dt_b1, Decidable.not_not, Classical.not_not] at c3
        refine dt_aloadn dX12_as_51 rfl rfl ?_
        refine dt_iconst dX12_as_52 ?_
        refine dt_xV dX12_as_53 pc_X12_74 rfl (s_X12_finding (by first | assumption | exact hwf _ _ | exact dt_b32 _ | omega | exact ⟨by omega, by omega⟩ | decide | exact ⟨by simp (disch := omega) only [dt_up_s, dt_up_k, dt_up_n]; omega, by simp (disch := omega) only [dt_up_s, dt_up_k, dt_up_n]; omega⟩)) rfl rfl ⟨by decide, by decide⟩ rfl rfl (Nat.le_of_ble_eq_true rfl) ⟨by decide, by decide⟩ (dt_k3 ?_)
        refine dt_iret dX12_as_56 rfl (by decide) (by decide) ?_
        first
        | (have e : oAs A t w kd = ((w : Int), sSt A 0) := by
            unfold oAs
            simp only [hat]
            rw [if_neg (by omega), if_pos (by assumption)]
           rw [e]
           exact ⟨rfl, rfl, hB, fb⟩)
        | (have e : oAs A t w kd = (-1000013, sSt A 3) := by
            unfold oAs
            simp only [hat]
            rw [if_neg (by omega), if_neg (by assumption)]
           rw [e]
           exact ⟨rfl, rfl, hB.st 3, fun b hb => by rw [dt_up_o (by omega)]; exact fb b hb⟩)
      · skip
        try simp only [dt_b0, dt_b1, Decidable.not_not, Classical.not_not] at c3
        refine dt_iloadn dX12_as_47 rfl rfl ?_
        refine dt_goto (tgt := 56) dX12_as_48 (by decide) ?_
        refine dt_iret dX12_as_56 rfl (by decide) (by decide) ?_
        first
        | (have e : oAs A t w kd = ((w : Int), sSt A 0) := by
            unfold oAs
            simp only [hat]
            rw [if_neg (by omega), if_pos (by assumption)]
           rw [e]
           exact ⟨rfl, rfl, hB, fb⟩)
        | (have e : oAs A t w kd = (-1000013, sSt A 3) := by
            unfold oAs
            simp only [hat]
            rw [if_neg (by omega), if_neg (by assumption)]
           rw [e]
           exact ⟨rfl, rfl, hB.st 3, fun b hb => by rw [dt_up_o (by omega)]; exact fb b hb⟩)
    · skip
      try simp only [dt_b0, dt_b1, Decidable.not_not, Classical.not_not] at c2
      refine dt_ldc dX12_as_26 pk_X12_73 ?_
      refine dt_iret dX12_as_28 rfl (by decide) (by decide) ?_
      first
      | (have e : oAs A t w kd = (-1000001, A) := by
          unfold oAs
          simp only [hat]
         rw [e]
         exact ⟨rfl, rfl, hA, fa⟩)
      | (have e : oAs A t w kd = (-1000001, A) := by
          unfold oAs
          simp only [hat]
          rw [if_pos (by omega)]
         rw [e]
         exact ⟨rfl, rfl, hA, fa⟩)
/-! other steps -/
theorem rInv.tc {σ σ' : dt_Mem} {A : dS} {l : List Int} (h : rInv σ A) (hT : rTrace σ' l) (e : rW σ σ') : rInv σ' (sTc A l) := by
  have ek : ∀ b, b ≠ 40 → b ≠ 54 → σ' b = σ b := fun b h1 h2 => funext fun k => e b k (Or.inl h1) h2
  have e0 : ∀ k, k ≠ 29 → σ' 40 k = σ 40 k := fun k hk => e 40 k (Or.inr hk) (by decide)
  obtain ⟨h1, h2, h3, h4, h5, h6, h7, -⟩ := h
  refine ⟨h1.kept (ek 41 (by decide) (by decide)) (ek 42 (by decide) (by decide)) (ek 43 (by decide) (by decide)), ⟨by rw [e0 9 (by decide)]; exact h2.1, by rw [ek 46 (by decide) (by decide)]; exact h2.2⟩, ⟨h3.1.kept (ek 44 (by decide) (by decide)), by rw [e0 7 (by decide)]; exact h3.2⟩, ⟨fun g => (h4.1 g).kept (ek 53 (by decide) (by decide)), by rw [ek 52 (by decide) (by decide)]; exact h4.2⟩, ⟨fun g => (h5.1 g).kept (ek 53 (by decide) (by decide)), by rw [ek 52 (by decide) (by decide)]; exact h5.2⟩, by rw [e0 10 (by decide)]; exact h6, by rw [e0 1 (by decide)]; exact h7, hT⟩
theorem s_X12_ask {ex : List dt_Shp} {σ : dt_Mem} {A : dS} {t w what : Int} (hI : rInv σ A) (h_t : dt_in32 t) (h_w : dt_in32 w) (h_what : dt_in32 what) (hok : dX_ok (sN A)) : dt_Sp mX12_ask 4 0 0 [dt_R 40, dt_I t, dt_I w, dt_I what] (dt_SH ++ ex) σ (fun v sh2 σ2 => v = some (dt_I (oAsk A t w what).1) ∧ sh2 = dt_SH ++ ex ∧ rEnd σ σ2 (oAsk A t w what).2) := by
  refine dt_Sp_of (by decide) (Nat.le_of_ble_eq_true rfl) ?_
  refine dt_wfV fun hwf => ?_
  show dt_V _ _ _ 0 0 0 [some (dt_R 40), some (dt_I t), some (dt_I w), some (dt_I what)] [] _ _
  refine dt_aloadn dX12_ask_0 rfl rfl ?_
  refine dt_iconst dX12_ask_1 ?_
  refine dt_wfV fun hwf => ?_
  refine dt_putI dX12_ask_2 pw_X12_53_12 rfl rfl (by first | assumption | exact hwf _ _ | exact dt_b32 _ | omega | exact ⟨by omega, by omega⟩ | decide | exact ⟨by simp (disch := omega) only [dt_up_s, dt_up_k, dt_up_n]; omega, by simp (disch := omega) only [dt_up_s, dt_up_k, dt_up_n]; omega⟩) ?_
  obtain ⟨σa, ea⟩ : ∃ z, z = dt_up σ 40 0 0 := ⟨_, rfl⟩
  rw [← ea]
  have hA := hI.up40 0 0 (by decide)
  rw [← ea] at hA
  have fa : ∀ b, (b < 40 ∨ 55 ≤ b) → σa b = σ b := fun b hb => by rw [ea]; exact dt_up_o (by omega)
  clear ea
  refine dt_wfV fun hwf => ?_
  have hX := hA.X hok
  have e0 := hX.t
  have e1 := hX.p
  have e2 := hX.2.1
  have e3 := hX.2.2.2.1
  refine dt_aloadn dX12_ask_5 rfl rfl ?_
  refine dt_iloadn dX12_ask_6 rfl rfl ?_
  refine dt_iloadn dX12_ask_7 rfl rfl ?_
  refine dt_xV dX12_ask_8 pc_X12_212 rfl (s_X12_isWord hX (by first | assumption | exact hwf _ _ | exact dt_b32 _ | omega | exact ⟨by omega, by omega⟩ | decide | exact ⟨by simp (disch := omega) only [dt_up_s, dt_up_k, dt_up_n]; omega, by simp (disch := omega) only [dt_up_s, dt_up_k, dt_up_n]; omega⟩) (by first | assumption | exact hwf _ _ | exact dt_b32 _ | omega | exact ⟨by omega, by omega⟩ | decide | exact ⟨by simp (disch := omega) only [dt_up_s, dt_up_k, dt_up_n]; omega, by simp (disch := omega) only [dt_up_s, dt_up_k, dt_up_n]; omega⟩)) rfl rfl ⟨by decide, by decide⟩ rfl rfl (Nat.le_of_ble_eq_true rfl) ⟨by decide, by decide⟩ (dt_k3 ?_)
  refine dt_if_eq (tgt := 24) dX12_ask_11 (by decide) (by first | assumption | exact hwf _ _ | exact dt_b32 _ | omega | exact ⟨by omega, by omega⟩ | decide | exact ⟨by simp (disch := omega) only [dt_up_s, dt_up_k, dt_up_n]; omega, by simp (disch := omega) only [dt_up_s, dt_up_k, dt_up_n]; omega⟩) (fun c1 => ?_) (fun c1 => ?_)
  · skip
    try simp only [dt_b0, dt_b1, Decidable.not_not, Classical.not_not] at c1
    have hat := c1
    refine dt_ldc dX12_ask_24 pk_X12_73 ?_
    refine dt_iret dX12_ask_26 rfl (by decide) (by decide) ?_
    first
    | (have e : oAsk A t w what = (-1000001, A) := by
        unfold oAsk
        simp only [hat]
       rw [e]
       exact ⟨rfl, rfl, hA, fa⟩)
    | (have e : oAsk A t w what = (-1000001, A) := by
        unfold oAsk
        simp only [hat]
        rw [if_pos (by omega)]
       rw [e]
       exact ⟨rfl, rfl, hA, fa⟩)
  · skip
    try simp only [dt_b0, dt_b1, Decidable.not_not, Classical.not_not] at c1
    obtain ⟨t, w, wd, rfl, rfl, hw⟩ := xAt_ne c1
    obtain ⟨⟨k0, k1, k2, k3⟩, k4, k5, k6⟩ := hX.wd hw
    have hat := xAt_of hw
    have k7 := k3.2.2.1
    have k8 := k3.2.2.2.1
    have k9 := k3.1
    have k10 := k3.2.1
    refine dt_iloadn dX12_ask_14 rfl rfl ?_
    refine dt_ui2l dX12_ask_15 (by first | assumption | exact hwf _ _ | exact dt_b32 _ | omega | exact ⟨by omega, by omega⟩ | decide | exact ⟨by simp (disch := omega) only [dt_up_s, dt_up_k, dt_up_n]; omega, by simp (disch := omega) only [dt_up_s, dt_up_k, dt_up_n]; omega⟩) ?_
    refine dt_lconst (x := 0) dX12_ask_16 (by decide) ?_
    refine dt_lconst (x := 1) dX12_ask_17 (by decide) ?_
    refine dt_xS dX12_ask_18 pc_X12_63 (s_X12_in (by first | exact ⟨by omega, by omega⟩ | decide) (by first | exact ⟨by omega, by omega⟩ | decide) (by first | exact ⟨by omega, by omega⟩ | decide)) rfl rfl ⟨by decide, by decide⟩ (Nat.le_of_ble_eq_true rfl) ⟨by decide, by decide⟩ (dt_k3 ?_)
    refine dt_if_ne (tgt := 27) dX12_ask_21 (by decide) (by first | assumption | exact hwf _ _ | exact dt_b32 _ | omega | exact ⟨by omega, by omega⟩ | decide | exact ⟨by simp (disch := omega) only [dt_up_s, dt_up_k, dt_up_n]; omega, by simp (disch := omega) only [dt_up_s, dt_up_k, dt_up_n]; omega⟩) (fun c2 => ?_) (fun c2 => ?_)
    · skip
      try simp only [dt_b0, dt_b1, Decidable.not_not, Classical.not_not] at c2
      refine dt_aloadn dX12_ask_27 rfl rfl ?_
      refine dt_iconst dX12_ask_28 ?_
      refine dt_wfV fun hwf => ?_
      refine dt_putI dX12_ask_29 pw_X12_306_12 rfl rfl (by first | assumption | exact hwf _ _ | exact dt_b32 _ | omega | exact ⟨by omega, by omega⟩ | decide | exact ⟨by simp (disch := omega) only [dt_up_s, dt_up_k, dt_up_n]; omega, by simp (disch := omega) only [dt_up_s, dt_up_k, dt_up_n]; omega⟩) ?_
      obtain ⟨σb, eb⟩ : ∃ z, z = dt_up σa 40 29 0 := ⟨_, rfl⟩
      rw [← eb]
      have gb : rW σa σb := fun b k h1 h2 => by rw [eb]; exact dt_up_ne h1
      have hTb : rTrace σb [] := ⟨by rw [eb, dt_up_s]; rfl, by decide, fun i x hx => by cases i <;> exact absurd hx (by simp)⟩
      have hXb := gb.X hX
      clear eb
      refine dt_iloadn dX12_ask_32 rfl rfl ?_
      refine dt_if_ne (tgt := 45) dX12_ask_33 (by decide) (by first | assumption | exact hwf _ _ | exact dt_b32 _ | omega | exact ⟨by omega, by omega⟩ | decide | exact ⟨by simp (disch := omega) only [dt_up_s, dt_up_k, dt_up_n]; omega, by simp (disch := omega) only [dt_up_s, dt_up_k, dt_up_n]; omega⟩) (fun c3 => ?_) (fun c3 => ?_)
      · skip
        refine dt_aloadn dX12_ask_45 rfl rfl ?_
        refine dt_iloadn dX12_ask_46 rfl rfl ?_
        refine dt_iloadn dX12_ask_47 rfl rfl ?_
        refine dt_xV dX12_ask_48 pc_X12_315 rfl (s_X12_markOf hXb hw hTb (by decide)) rfl rfl ⟨by decide, by decide⟩ rfl rfl (Nat.le_of_ble_eq_true rfl) ⟨by decide, by decide⟩ ?_
        intro vq shq σq hqq
        obtain ⟨rfl, hsq, hfq, hTq⟩ := hqq
        obtain rfl := hsq.symm
        have hC := hA.tc hTq (gb.tr hfq)
        have fC : ∀ b, (b < 40 ∨ 55 ≤ b) → σq b = σ b := fun b hb => (funext fun k => (gb.tr hfq) b k (Or.inl (by omega)) (by omega)).trans (fa b hb)
        refine dt_iret dX12_ask_51 rfl (by decide) (by decide) ?_
        first
        | (have e : oAsk A t w what = (szV wd.1 wd.2.length w (xCom wd.2), sTc A (szT wd.1)) := by
            unfold oAsk
            simp only [hat]
            rw [if_neg (by omega), if_pos (by omega)]
           rw [e]
           exact ⟨rfl, rfl, hC, fC⟩)
        | (have e : oAsk A t w what = (mkV wd.1 w (xCom wd.2), sTc A (mkT wd.1)) := by
            unfold oAsk
            simp only [hat]
            rw [if_neg (by omega), if_neg (by omega)]
           rw [e]
           exact ⟨rfl, rfl, hC, fC⟩)
      · skip
        refine dt_aloadn dX12_ask_36 rfl rfl ?_
        refine dt_iloadn dX12_ask_37 rfl rfl ?_
        refine dt_iloadn dX12_ask_38 rfl rfl ?_
        refine dt_xV dX12_ask_39 pc_X12_318 rfl (s_X12_sizeOf hXb hw hTb) rfl rfl ⟨by decide, by decide⟩ rfl rfl (Nat.le_of_ble_eq_true rfl) ⟨by decide, by decide⟩ ?_
        intro vp shp σp hqp
        obtain ⟨rfl, hsp, hfp, hTp⟩ := hqp
        obtain rfl := hsp.symm
        have hC := hA.tc hTp (gb.tr hfp)
        have fC : ∀ b, (b < 40 ∨ 55 ≤ b) → σp b = σ b := fun b hb => (funext fun k => (gb.tr hfp) b k (Or.inl (by omega)) (by omega)).trans (fa b hb)
        refine dt_goto (tgt := 51) dX12_ask_42 (by decide) ?_
        refine dt_iret dX12_ask_51 rfl (by decide) (by decide) ?_
        first
        | (have e : oAsk A t w what = (szV wd.1 wd.2.length w (xCom wd.2), sTc A (szT wd.1)) := by
            unfold oAsk
            simp only [hat]
            rw [if_neg (by omega), if_pos (by omega)]
           rw [e]
           exact ⟨rfl, rfl, hC, fC⟩)
        | (have e : oAsk A t w what = (mkV wd.1 w (xCom wd.2), sTc A (mkT wd.1)) := by
            unfold oAsk
            simp only [hat]
            rw [if_neg (by omega), if_neg (by omega)]
           rw [e]
           exact ⟨rfl, rfl, hC, fC⟩)
    · skip
      try simp only [dt_b0, dt_b1, Decidable.not_not, Classical.not_not] at c2
      refine dt_ldc dX12_ask_24 pk_X12_73 ?_
      refine dt_iret dX12_ask_26 rfl (by decide) (by decide) ?_
      first
      | (have e : oAsk A t w what = (-1000001, A) := by
          unfold oAsk
          simp only [hat]
         rw [e]
         exact ⟨rfl, rfl, hA, fa⟩)
      | (have e : oAsk A t w what = (-1000001, A) := by
          unfold oAsk
          simp only [hat]
          rw [if_pos (by omega)]
         rw [e]
         exact ⟨rfl, rfl, hA, fa⟩)
