
/-! a word asked, the class's side -/
theorem cTrace.ex {ex e2 : List dt_Shp} {σ : dt_Mem} {l : List Int} (h : cTrace ex σ l) : cTrace (ex ++ e2) σ l := by
  rcases h with h | ⟨w, ci, tg, h1, h2, h3, h4, h5, h6, h7, h8⟩
  · exact Or.inl h
  · refine Or.inr ⟨w, ci, tg, h1, h2, h3, ?_, h5, h6, ?_, h8⟩
    · rw [← List.append_assoc, List.getElem?_append_left (dt_gl h4)]; exact h4
    · rw [← List.append_assoc, List.getElem?_append_left (dt_gl h7)]; exact h7
theorem cTrace.low {ex : List dt_Shp} {σ σ' : dt_Mem} {l : List Int} (h : cTrace ex σ l) (e : ∀ b, b < (dt_SH ++ ex).length → σ' b = σ b) : cTrace ex σ' l := by
  have hL : (dt_SH ++ ex).length = 55 + ex.length := by rw [List.length_append, dt_SH_len]
  rcases h with ⟨h1, h2⟩ | ⟨w, ci, tg, h1, h2, h3, h4, h5, h6, h7, h8, h9, h10⟩
  · exact Or.inl ⟨by rw [e 0 (by omega)]; exact h1, h2⟩
  · have := dt_gl h4
    have := dt_gl h7
    exact Or.inr ⟨w, ci, tg, by rw [e 0 (by omega)]; exact h1, h2, h3, h4, h5, h6, h7, h8, by rw [e w (by omega)]; exact h9, by rw [e (w + 1) (by omega)]; exact h10⟩
theorem cInv.ex {ex e2 : List dt_Shp} {σ : dt_Mem} {A : dS} (h : cInv ex σ A) : cInv (ex ++ e2) σ A := by
  obtain ⟨h1, h2, h3, h4, h5, h6, h7, h8⟩ := h
  exact ⟨h1, h2, h3, h4, h5, h6, h7, h8.ex⟩
theorem cInv.low {ex : List dt_Shp} {σ σ' : dt_Mem} {A : dS} (h : cInv ex σ A) (e : ∀ b, b < (dt_SH ++ ex).length → σ' b = σ b) : cInv ex σ' A := by
  have hL : (dt_SH ++ ex).length = 55 + ex.length := by rw [List.length_append, dt_SH_len]
  obtain ⟨h1, h2, h3, h4, h5, h6, h7, h8⟩ := h
  exact ⟨h1.kept (e 2 (by omega)) (e 3 (by omega)) (e 4 (by omega)), h2.kept (by rw [e 5 (by omega)]) (e 6 (by omega)), h3.kept (fun b _ _ => e b (by omega)), h4.kept (fun b _ _ => e b (by omega)), h5.kept (fun b _ _ => e b (by omega)), by rw [e 0 (by omega)]; exact h6, by rw [e 0 (by omega)]; exact h7, h8.low e⟩
theorem cInv.tc {ex : List dt_Shp} {σ σ' : dt_Mem} {A : dS} {w ci : Nat} {l : List Int} (h : cInv ex σ A) (h8 : σ' 0 8 = w) (hw : 55 ≤ w ∧ w < 2000000000) (hO : wO (dt_SH ++ ex) w ci) (hc : ci = 0 ∨ ci = 1 ∨ ci = 2 ∨ ci = 3 ∨ ci = 5) (hT : wT σ' w l) (hl : l.length ≤ 16) (e : ∀ b k, b < 55 → (b ≠ 0 ∨ k ≠ 8) → σ' b k = σ b k) : cInv ex σ' (sTc A l) := by
  have ek : ∀ b, b ≠ 0 → b < 55 → σ' b = σ b := fun b h1 h2 => funext fun k => e b k h2 (Or.inl h1)
  have e0 : ∀ k, k ≠ 8 → σ' 0 k = σ 0 k := fun k hk => e 0 k (by omega) (Or.inr hk)
  obtain ⟨h1, h2, h3, h4, h5, h6, h7, -⟩ := h
  exact ⟨h1.kept (ek 2 (by omega) (by omega)) (ek 3 (by omega) (by omega)) (ek 4 (by omega) (by omega)), h2.kept (by rw [ek 5 (by omega) (by omega)]) (ek 6 (by omega) (by omega)), h3.kept (fun b _ _ => ek b (by omega) (by omega)), h4.kept (fun b _ _ => ek b (by omega) (by omega)), h5.kept (fun b _ _ => ek b (by omega) (by omega)), by rw [e0 9 (by decide)]; exact h6, by rw [e0 10 (by decide)]; exact h7, Or.inr ⟨w, ci, _, h8, hw.1, hw.2, hO.1, hc, rfl, hO.2, hl, hT.1, hT.2⟩⟩
theorem wNew_5 : ∀ j, j < 5 → ∀ B S, defaultValue (dt_ty 5 j) = dt_tr B S (dt_rd (([0, 0, 3, 0, 0] : List Nat).getD j 3) 0) := fun j hj B S => by
  match j, hj with
  | 0, _ => rfl
  | 1, _ => rfl
  | 2, _ => rfl
  | 3, _ => rfl
  | 4, _ => rfl
  | n + 5, h => omega
theorem wNew_0 : ∀ j, j < 5 → ∀ B S, defaultValue (dt_ty 0 j) = dt_tr B S (dt_rd (([0, 0, 3, 0, 0] : List Nat).getD j 3) 0) := fun j hj B S => by
  match j, hj with
  | 0, _ => rfl
  | 1, _ => rfl
  | 2, _ => rfl
  | 3, _ => rfl
  | 4, _ => rfl
  | n + 5, h => omega
theorem wNew_2 : ∀ j, j < 5 → ∀ B S, defaultValue (dt_ty 2 j) = dt_tr B S (dt_rd (([0, 0, 3, 0, 0] : List Nat).getD j 3) 0) := fun j hj B S => by
  match j, hj with
  | 0, _ => rfl
  | 1, _ => rfl
  | 2, _ => rfl
  | 3, _ => rfl
  | 4, _ => rfl
  | n + 5, h => omega
theorem wNew_1 : ∀ j, j < 5 → ∀ B S, defaultValue (dt_ty 1 j) = dt_tr B S (dt_rd (([0, 0, 3, 0, 0] : List Nat).getD j 3) 0) := fun j hj B S => by
  match j, hj with
  | 0, _ => rfl
  | 1, _ => rfl
  | 2, _ => rfl
  | 3, _ => rfl
  | 4, _ => rfl
  | n + 5, h => omega
theorem wNew_3 : ∀ j, j < 5 → ∀ B S, defaultValue (dt_ty 3 j) = dt_tr B S (dt_rd (([0, 0, 3, 0, 0] : List Nat).getD j 3) 0) := fun j hj B S => by
  match j, hj with
  | 0, _ => rfl
  | 1, _ => rfl
  | 2, _ => rfl
  | 3, _ => rfl
  | 4, _ => rfl
  | n + 5, h => omega
theorem s_X11_isOfKind_5 {sh : List dt_Shp} {σ : dt_Mem} {w : Nat} {tags : List Nat} {b : Int} (hs : sh[w]? = some (.inl (5, tags))) (hb : 0 ≤ b ∧ b ≤ 5) : dt_Sp mX11_isOfKind 0 0 0 [dt_R w, dt_I b] sh σ (fun v sh2 σ2 => v = some (dt_I (dt_b (kOf 1 b))) ∧ sh2 = sh ∧ σ2 = σ) := by
  refine dt_Sp_of (by decide) (Nat.le_of_ble_eq_true rfl) ?_
  refine dt_wfV fun hwf => ?_
  show dt_V _ _ _ 0 0 0 [some (dt_R w), some (dt_I b)] [] _ _
  refine dt_iloadn dX11_isOfKind_0 rfl rfl ?_
  by_cases s1 : b = 1
  · refine dt_tblI (off := 35) (tgt := 36) dX11_isOfKind_1 (by first | assumption | exact hwf _ _ | exact dt_b32 _ | omega | exact ⟨by omega, by omega⟩ | decide | exact ⟨by simp (disch := omega) only [dt_up_s, dt_up_k, dt_up_n]; omega, by simp (disch := omega) only [dt_up_s, dt_up_k, dt_up_n]; omega⟩) (by omega) (by omega) (by rw [s1]; rfl) (by decide) ?_
    refine dt_aloadn dX11_isOfKind_36 rfl rfl ?_
    refine dt_instY dX11_isOfKind_37 pl_X11_290 hs rfl (Or.inl rfl) ?_
    refine dt_zret dX11_isOfKind_40 rfl (by decide) (by decide) (by first | exact Or.inl rfl | exact Or.inr rfl | assumption | omega) ?_
    first | (rw [dt_bT (show kOf 1 b by unfold kOf; omega)]; exact ⟨rfl, rfl, rfl⟩) | (rw [dt_bF (show ¬ kOf 1 b by unfold kOf; omega)]; exact ⟨rfl, rfl, rfl⟩)
  by_cases s2 : b = 2
  · refine dt_tblI (off := 40) (tgt := 41) dX11_isOfKind_1 (by first | assumption | exact hwf _ _ | exact dt_b32 _ | omega | exact ⟨by omega, by omega⟩ | decide | exact ⟨by simp (disch := omega) only [dt_up_s, dt_up_k, dt_up_n]; omega, by simp (disch := omega) only [dt_up_s, dt_up_k, dt_up_n]; omega⟩) (by omega) (by omega) (by rw [s2]; rfl) (by decide) ?_
    refine dt_aloadn dX11_isOfKind_41 rfl rfl ?_
    refine dt_instN dX11_isOfKind_42 pl_X11_294 hs rfl (by decide +kernel) ?_
    refine dt_zret dX11_isOfKind_45 rfl (by decide) (by decide) (by first | exact Or.inl rfl | exact Or.inr rfl | assumption | omega) ?_
    first | (rw [dt_bT (show kOf 1 b by unfold kOf; omega)]; exact ⟨rfl, rfl, rfl⟩) | (rw [dt_bF (show ¬ kOf 1 b by unfold kOf; omega)]; exact ⟨rfl, rfl, rfl⟩)
  by_cases s3 : b = 3
  · refine dt_tblI (off := 45) (tgt := 46) dX11_isOfKind_1 (by first | assumption | exact hwf _ _ | exact dt_b32 _ | omega | exact ⟨by omega, by omega⟩ | decide | exact ⟨by simp (disch := omega) only [dt_up_s, dt_up_k, dt_up_n]; omega, by simp (disch := omega) only [dt_up_s, dt_up_k, dt_up_n]; omega⟩) (by omega) (by omega) (by rw [s3]; rfl) (by decide) ?_
    refine dt_aloadn dX11_isOfKind_46 rfl rfl ?_
    refine dt_instN dX11_isOfKind_47 pl_X11_297 hs rfl (by decide +kernel) ?_
    refine dt_zret dX11_isOfKind_50 rfl (by decide) (by decide) (by first | exact Or.inl rfl | exact Or.inr rfl | assumption | omega) ?_
    first | (rw [dt_bT (show kOf 1 b by unfold kOf; omega)]; exact ⟨rfl, rfl, rfl⟩) | (rw [dt_bF (show ¬ kOf 1 b by unfold kOf; omega)]; exact ⟨rfl, rfl, rfl⟩)
  by_cases s4 : b = 4
  · refine dt_tblI (off := 50) (tgt := 51) dX11_isOfKind_1 (by first | assumption | exact hwf _ _ | exact dt_b32 _ | omega | exact ⟨by omega, by omega⟩ | decide | exact ⟨by simp (disch := omega) only [dt_up_s, dt_up_k, dt_up_n]; omega, by simp (disch := omega) only [dt_up_s, dt_up_k, dt_up_n]; omega⟩) (by omega) (by omega) (by rw [s4]; rfl) (by decide) ?_
    refine dt_aloadn dX11_isOfKind_51 rfl rfl ?_
    refine dt_instN dX11_isOfKind_52 pl_X11_300 hs rfl (by decide +kernel) ?_
    refine dt_zret dX11_isOfKind_55 rfl (by decide) (by decide) (by first | exact Or.inl rfl | exact Or.inr rfl | assumption | omega) ?_
    first | (rw [dt_bT (show kOf 1 b by unfold kOf; omega)]; exact ⟨rfl, rfl, rfl⟩) | (rw [dt_bF (show ¬ kOf 1 b by unfold kOf; omega)]; exact ⟨rfl, rfl, rfl⟩)
  by_cases s5 : b = 5
  · refine dt_tblI (off := 55) (tgt := 56) dX11_isOfKind_1 (by first | assumption | exact hwf _ _ | exact dt_b32 _ | omega | exact ⟨by omega, by omega⟩ | decide | exact ⟨by simp (disch := omega) only [dt_up_s, dt_up_k, dt_up_n]; omega, by simp (disch := omega) only [dt_up_s, dt_up_k, dt_up_n]; omega⟩) (by omega) (by omega) (by rw [s5]; rfl) (by decide) ?_
    refine dt_aloadn dX11_isOfKind_56 rfl rfl ?_
    refine dt_instN dX11_isOfKind_57 pl_X11_303 hs rfl (by decide +kernel) ?_
    refine dt_zret dX11_isOfKind_60 rfl (by decide) (by decide) (by first | exact Or.inl rfl | exact Or.inr rfl | assumption | omega) ?_
    first | (rw [dt_bT (show kOf 1 b by unfold kOf; omega)]; exact ⟨rfl, rfl, rfl⟩) | (rw [dt_bF (show ¬ kOf 1 b by unfold kOf; omega)]; exact ⟨rfl, rfl, rfl⟩)
  refine dt_tblO (tgt := 61) dX11_isOfKind_1 (by first | assumption | exact hwf _ _ | exact dt_b32 _ | omega | exact ⟨by omega, by omega⟩ | decide | exact ⟨by simp (disch := omega) only [dt_up_s, dt_up_k, dt_up_n]; omega, by simp (disch := omega) only [dt_up_s, dt_up_k, dt_up_n]; omega⟩) (by omega) (by decide) ?_
  refine dt_iloadn dX11_isOfKind_61 rfl rfl ?_
  refine dt_if_ne (tgt := 69) dX11_isOfKind_62 (by decide) (by first | assumption | exact hwf _ _ | exact dt_b32 _ | omega | exact ⟨by omega, by omega⟩ | decide | exact ⟨by simp (disch := omega) only [dt_up_s, dt_up_k, dt_up_n]; omega, by simp (disch := omega) only [dt_up_s, dt_up_k, dt_up_n]; omega⟩) (fun c6 => ?_) (fun c6 => ?_)
  · skip
    refine dt_iconst dX11_isOfKind_69 ?_
    refine dt_zret dX11_isOfKind_70 rfl (by decide) (by decide) (by first | exact Or.inl rfl | exact Or.inr rfl | assumption | omega) ?_
    first | (rw [dt_bT (show kOf 1 b by unfold kOf; omega)]; exact ⟨rfl, rfl, rfl⟩) | (rw [dt_bF (show ¬ kOf 1 b by unfold kOf; omega)]; exact ⟨rfl, rfl, rfl⟩)
  · skip
    refine dt_iconst dX11_isOfKind_65 ?_
    refine dt_goto (tgt := 70) dX11_isOfKind_66 (by decide) ?_
    refine dt_zret dX11_isOfKind_70 rfl (by decide) (by decide) (by first | exact Or.inl rfl | exact Or.inr rfl | assumption | omega) ?_
    first | (rw [dt_bT (show kOf 1 b by unfold kOf; omega)]; exact ⟨rfl, rfl, rfl⟩) | (rw [dt_bF (show ¬ kOf 1 b by unfold kOf; omega)]; exact ⟨rfl, rfl, rfl⟩)
theorem s_X11_isOfKind_0 {sh : List dt_Shp} {σ : dt_Mem} {w : Nat} {tags : List Nat} {b : Int} (hs : sh[w]? = some (.inl (0, tags))) (hb : 0 ≤ b ∧ b ≤ 5) : dt_Sp mX11_isOfKind 0 0 0 [dt_R w, dt_I b] sh σ (fun v sh2 σ2 => v = some (dt_I (dt_b (kOf 2 b))) ∧ sh2 = sh ∧ σ2 = σ) := by
  refine dt_Sp_of (by decide) (Nat.le_of_ble_eq_true rfl) ?_
  refine dt_wfV fun hwf => ?_
  show dt_V _ _ _ 0 0 0 [some (dt_R w), some (dt_I b)] [] _ _
  refine dt_iloadn dX11_isOfKind_0 rfl rfl ?_
  by_cases s1 : b = 1
  · refine dt_tblI (off := 35) (tgt := 36) dX11_isOfKind_1 (by first | assumption | exact hwf _ _ | exact dt_b32 _ | omega | exact ⟨by omega, by omega⟩ | decide | exact ⟨by simp (disch := omega) only [dt_up_s, dt_up_k, dt_up_n]; omega, by simp (disch := omega) only [dt_up_s, dt_up_k, dt_up_n]; omega⟩) (by omega) (by omega) (by rw [s1]; rfl) (by decide) ?_
    refine dt_aloadn dX11_isOfKind_36 rfl rfl ?_
    refine dt_instY dX11_isOfKind_37 pl_X11_290 hs rfl (Or.inr (by decide +kernel)) ?_
    refine dt_zret dX11_isOfKind_40 rfl (by decide) (by decide) (by first | exact Or.inl rfl | exact Or.inr rfl | assumption | omega) ?_
    first | (rw [dt_bT (show kOf 2 b by unfold kOf; omega)]; exact ⟨rfl, rfl, rfl⟩) | (rw [dt_bF (show ¬ kOf 2 b by unfold kOf; omega)]; exact ⟨rfl, rfl, rfl⟩)
  by_cases s2 : b = 2
  · refine dt_tblI (off := 40) (tgt := 41) dX11_isOfKind_1 (by first | assumption | exact hwf _ _ | exact dt_b32 _ | omega | exact ⟨by omega, by omega⟩ | decide | exact ⟨by simp (disch := omega) only [dt_up_s, dt_up_k, dt_up_n]; omega, by simp (disch := omega) only [dt_up_s, dt_up_k, dt_up_n]; omega⟩) (by omega) (by omega) (by rw [s2]; rfl) (by decide) ?_
    refine dt_aloadn dX11_isOfKind_41 rfl rfl ?_
    refine dt_instY dX11_isOfKind_42 pl_X11_294 hs rfl (Or.inl rfl) ?_
    refine dt_zret dX11_isOfKind_45 rfl (by decide) (by decide) (by first | exact Or.inl rfl | exact Or.inr rfl | assumption | omega) ?_
    first | (rw [dt_bT (show kOf 2 b by unfold kOf; omega)]; exact ⟨rfl, rfl, rfl⟩) | (rw [dt_bF (show ¬ kOf 2 b by unfold kOf; omega)]; exact ⟨rfl, rfl, rfl⟩)
  by_cases s3 : b = 3
  · refine dt_tblI (off := 45) (tgt := 46) dX11_isOfKind_1 (by first | assumption | exact hwf _ _ | exact dt_b32 _ | omega | exact ⟨by omega, by omega⟩ | decide | exact ⟨by simp (disch := omega) only [dt_up_s, dt_up_k, dt_up_n]; omega, by simp (disch := omega) only [dt_up_s, dt_up_k, dt_up_n]; omega⟩) (by omega) (by omega) (by rw [s3]; rfl) (by decide) ?_
    refine dt_aloadn dX11_isOfKind_46 rfl rfl ?_
    refine dt_instN dX11_isOfKind_47 pl_X11_297 hs rfl (by decide +kernel) ?_
    refine dt_zret dX11_isOfKind_50 rfl (by decide) (by decide) (by first | exact Or.inl rfl | exact Or.inr rfl | assumption | omega) ?_
    first | (rw [dt_bT (show kOf 2 b by unfold kOf; omega)]; exact ⟨rfl, rfl, rfl⟩) | (rw [dt_bF (show ¬ kOf 2 b by unfold kOf; omega)]; exact ⟨rfl, rfl, rfl⟩)
  by_cases s4 : b = 4
  · refine dt_tblI (off := 50) (tgt := 51) dX11_isOfKind_1 (by first | assumption | exact hwf _ _ | exact dt_b32 _ | omega | exact ⟨by omega, by omega⟩ | decide | exact ⟨by simp (disch := omega) only [dt_up_s, dt_up_k, dt_up_n]; omega, by simp (disch := omega) only [dt_up_s, dt_up_k, dt_up_n]; omega⟩) (by omega) (by omega) (by rw [s4]; rfl) (by decide) ?_
    refine dt_aloadn dX11_isOfKind_51 rfl rfl ?_
    refine dt_instN dX11_isOfKind_52 pl_X11_300 hs rfl (by decide +kernel) ?_
    refine dt_zret dX11_isOfKind_55 rfl (by decide) (by decide) (by first | exact Or.inl rfl | exact Or.inr rfl | assumption | omega) ?_
    first | (rw [dt_bT (show kOf 2 b by unfold kOf; omega)]; exact ⟨rfl, rfl, rfl⟩) | (rw [dt_bF (show ¬ kOf 2 b by unfold kOf; omega)]; exact ⟨rfl, rfl, rfl⟩)
  by_cases s5 : b = 5
  · refine dt_tblI (off := 55) (tgt := 56) dX11_isOfKind_1 (by first | assumption | exact hwf _ _ | exact dt_b32 _ | omega | exact ⟨by omega, by omega⟩ | decide | exact ⟨by simp (disch := omega) only [dt_up_s, dt_up_k, dt_up_n]; omega, by simp (disch := omega) only [dt_up_s, dt_up_k, dt_up_n]; omega⟩) (by omega) (by omega) (by rw [s5]; rfl) (by decide) ?_
    refine dt_aloadn dX11_isOfKind_56 rfl rfl ?_
    refine dt_instN dX11_isOfKind_57 pl_X11_303 hs rfl (by decide +kernel) ?_
    refine dt_zret dX11_isOfKind_60 rfl (by decide) (by decide) (by first | exact Or.inl rfl | exact Or.inr rfl | assumption | omega) ?_
    first | (rw [dt_bT (show kOf 2 b by unfold kOf; omega)]; exact ⟨rfl, rfl, rfl⟩) | (rw [dt_bF (show ¬ kOf 2 b by unfold kOf; omega)]; exact ⟨rfl, rfl, rfl⟩)
  refine dt_tblO (tgt := 61) dX11_isOfKind_1 (by first | assumption | exact hwf _ _ | exact dt_b32 _ | omega | exact ⟨by omega, by omega⟩ | decide | exact ⟨by simp (disch := omega) only [dt_up_s, dt_up_k, dt_up_n]; omega, by simp (disch := omega) only [dt_up_s, dt_up_k, dt_up_n]; omega⟩) (by omega) (by decide) ?_
  refine dt_iloadn dX11_isOfKind_61 rfl rfl ?_
  refine dt_if_ne (tgt := 69) dX11_isOfKind_62 (by decide) (by first | assumption | exact hwf _ _ | exact dt_b32 _ | omega | exact ⟨by omega, by omega⟩ | decide | exact ⟨by simp (disch := omega) only [dt_up_s, dt_up_k, dt_up_n]; omega, by simp (disch := omega) only [dt_up_s, dt_up_k, dt_up_n]; omega⟩) (fun c6 => ?_) (fun c6 => ?_)
  · skip
    refine dt_iconst dX11_isOfKind_69 ?_
    refine dt_zret dX11_isOfKind_70 rfl (by decide) (by decide) (by first | exact Or.inl rfl | exact Or.inr rfl | assumption | omega) ?_
    first | (rw [dt_bT (show kOf 2 b by unfold kOf; omega)]; exact ⟨rfl, rfl, rfl⟩) | (rw [dt_bF (show ¬ kOf 2 b by unfold kOf; omega)]; exact ⟨rfl, rfl, rfl⟩)
  · skip
    refine dt_iconst dX11_isOfKind_65 ?_
    refine dt_goto (tgt := 70) dX11_isOfKind_66 (by decide) ?_
    refine dt_zret dX11_isOfKind_70 rfl (by decide) (by decide) (by first | exact Or.inl rfl | exact Or.inr rfl | assumption | omega) ?_
    first | (rw [dt_bT (show kOf 2 b by unfold kOf; omega)]; exact ⟨rfl, rfl, rfl⟩) | (rw [dt_bF (show ¬ kOf 2 b by unfold kOf; omega)]; exact ⟨rfl, rfl, rfl⟩)
theorem s_X11_isOfKind_2 {sh : List dt_Shp} {σ : dt_Mem} {w : Nat} {tags : List Nat} {b : Int} (hs : sh[w]? = some (.inl (2, tags))) (hb : 0 ≤ b ∧ b ≤ 5) : dt_Sp mX11_isOfKind 0 0 0 [dt_R w, dt_I b] sh σ (fun v sh2 σ2 => v = some (dt_I (dt_b (kOf 3 b))) ∧ sh2 = sh ∧ σ2 = σ) := by
  refine dt_Sp_of (by decide) (Nat.le_of_ble_eq_true rfl) ?_
  refine dt_wfV fun hwf => ?_
  show dt_V _ _ _ 0 0 0 [some (dt_R w), some (dt_I b)] [] _ _
  refine dt_iloadn dX11_isOfKind_0 rfl rfl ?_
  by_cases s1 : b = 1
  · refine dt_tblI (off := 35) (tgt := 36) dX11_isOfKind_1 (by first | assumption | exact hwf _ _ | exact dt_b32 _ | omega | exact ⟨by omega, by omega⟩ | decide | exact ⟨by simp (disch := omega) only [dt_up_s, dt_up_k, dt_up_n]; omega, by simp (disch := omega) only [dt_up_s, dt_up_k, dt_up_n]; omega⟩) (by omega) (by omega) (by rw [s1]; rfl) (by decide) ?_
    refine dt_aloadn dX11_isOfKind_36 rfl rfl ?_
    refine dt_instY dX11_isOfKind_37 pl_X11_290 hs rfl (Or.inr (by decide +kernel)) ?_
    refine dt_zret dX11_isOfKind_40 rfl (by decide) (by decide) (by first | exact Or.inl rfl | exact Or.inr rfl | assumption | omega) ?_
    first | (rw [dt_bT (show kOf 3 b by unfold kOf; omega)]; exact ⟨rfl, rfl, rfl⟩) | (rw [dt_bF (show ¬ kOf 3 b by unfold kOf; omega)]; exact ⟨rfl, rfl, rfl⟩)
  by_cases s2 : b = 2
  · refine dt_tblI (off := 40) (tgt := 41) dX11_isOfKind_1 (by first | assumption | exact hwf _ _ | exact dt_b32 _ | omega | exact ⟨by omega, by omega⟩ | decide | exact ⟨by simp (disch := omega) only [dt_up_s, dt_up_k, dt_up_n]; omega, by simp (disch := omega) only [dt_up_s, dt_up_k, dt_up_n]; omega⟩) (by omega) (by omega) (by rw [s2]; rfl) (by decide) ?_
    refine dt_aloadn dX11_isOfKind_41 rfl rfl ?_
    refine dt_instY dX11_isOfKind_42 pl_X11_294 hs rfl (Or.inr (by decide +kernel)) ?_
    refine dt_zret dX11_isOfKind_45 rfl (by decide) (by decide) (by first | exact Or.inl rfl | exact Or.inr rfl | assumption | omega) ?_
    first | (rw [dt_bT (show kOf 3 b by unfold kOf; omega)]; exact ⟨rfl, rfl, rfl⟩) | (rw [dt_bF (show ¬ kOf 3 b by unfold kOf; omega)]; exact ⟨rfl, rfl, rfl⟩)
  by_cases s3 : b = 3
  · refine dt_tblI (off := 45) (tgt := 46) dX11_isOfKind_1 (by first | assumption | exact hwf _ _ | exact dt_b32 _ | omega | exact ⟨by omega, by omega⟩ | decide | exact ⟨by simp (disch := omega) only [dt_up_s, dt_up_k, dt_up_n]; omega, by simp (disch := omega) only [dt_up_s, dt_up_k, dt_up_n]; omega⟩) (by omega) (by omega) (by rw [s3]; rfl) (by decide) ?_
    refine dt_aloadn dX11_isOfKind_46 rfl rfl ?_
    refine dt_instY dX11_isOfKind_47 pl_X11_297 hs rfl (Or.inl rfl) ?_
    refine dt_zret dX11_isOfKind_50 rfl (by decide) (by decide) (by first | exact Or.inl rfl | exact Or.inr rfl | assumption | omega) ?_
    first | (rw [dt_bT (show kOf 3 b by unfold kOf; omega)]; exact ⟨rfl, rfl, rfl⟩) | (rw [dt_bF (show ¬ kOf 3 b by unfold kOf; omega)]; exact ⟨rfl, rfl, rfl⟩)
  by_cases s4 : b = 4
  · refine dt_tblI (off := 50) (tgt := 51) dX11_isOfKind_1 (by first | assumption | exact hwf _ _ | exact dt_b32 _ | omega | exact ⟨by omega, by omega⟩ | decide | exact ⟨by simp (disch := omega) only [dt_up_s, dt_up_k, dt_up_n]; omega, by simp (disch := omega) only [dt_up_s, dt_up_k, dt_up_n]; omega⟩) (by omega) (by omega) (by rw [s4]; rfl) (by decide) ?_
    refine dt_aloadn dX11_isOfKind_51 rfl rfl ?_
    refine dt_instN dX11_isOfKind_52 pl_X11_300 hs rfl (by decide +kernel) ?_
    refine dt_zret dX11_isOfKind_55 rfl (by decide) (by decide) (by first | exact Or.inl rfl | exact Or.inr rfl | assumption | omega) ?_
    first | (rw [dt_bT (show kOf 3 b by unfold kOf; omega)]; exact ⟨rfl, rfl, rfl⟩) | (rw [dt_bF (show ¬ kOf 3 b by unfold kOf; omega)]; exact ⟨rfl, rfl, rfl⟩)
  by_cases s5 : b = 5
  · refine dt_tblI (off := 55) (tgt := 56) dX11_isOfKind_1 (by first | assumption | exact hwf _ _ | exact dt_b32 _ | omega | exact ⟨by omega, by omega⟩ | decide | exact ⟨by simp (disch := omega) only [dt_up_s, dt_up_k, dt_up_n]; omega, by simp (disch := omega) only [dt_up_s, dt_up_k, dt_up_n]; omega⟩) (by omega) (by omega) (by rw [s5]; rfl) (by decide) ?_
    refine dt_aloadn dX11_isOfKind_56 rfl rfl ?_
    refine dt_instN dX11_isOfKind_57 pl_X11_303 hs rfl (by decide +kernel) ?_
    refine dt_zret dX11_isOfKind_60 rfl (by decide) (by decide) (by first | exact Or.inl rfl | exact Or.inr rfl | assumption | omega) ?_
    first | (rw [dt_bT (show kOf 3 b by unfold kOf; omega)]; exact ⟨rfl, rfl, rfl⟩) | (rw [dt_bF (show ¬ kOf 3 b by unfold kOf; omega)]; exact ⟨rfl, rfl, rfl⟩)
  refine dt_tblO (tgt := 61) dX11_isOfKind_1 (by first | assumption | exact hwf _ _ | exact dt_b32 _ | omega | exact ⟨by omega, by omega⟩ | decide | exact ⟨by simp (disch := omega) only [dt_up_s, dt_up_k, dt_up_n]; omega, by simp (disch := omega) only [dt_up_s, dt_up_k, dt_up_n]; omega⟩) (by omega) (by decide) ?_
  refine dt_iloadn dX11_isOfKind_61 rfl rfl ?_
  refine dt_if_ne (tgt := 69) dX11_isOfKind_62 (by decide) (by first | assumption | exact hwf _ _ | exact dt_b32 _ | omega | exact ⟨by omega, by omega⟩ | decide | exact ⟨by simp (disch := omega) only [dt_up_s, dt_up_k, dt_up_n]; omega, by simp (disch := omega) only [dt_up_s, dt_up_k, dt_up_n]; omega⟩) (fun c6 => ?_) (fun c6 => ?_)
  · skip
    refine dt_iconst dX11_isOfKind_69 ?_
    refine dt_zret dX11_isOfKind_70 rfl (by decide) (by decide) (by first | exact Or.inl rfl | exact Or.inr rfl | assumption | omega) ?_
    first | (rw [dt_bT (show kOf 3 b by unfold kOf; omega)]; exact ⟨rfl, rfl, rfl⟩) | (rw [dt_bF (show ¬ kOf 3 b by unfold kOf; omega)]; exact ⟨rfl, rfl, rfl⟩)
  · skip
    refine dt_iconst dX11_isOfKind_65 ?_
    refine dt_goto (tgt := 70) dX11_isOfKind_66 (by decide) ?_
    refine dt_zret dX11_isOfKind_70 rfl (by decide) (by decide) (by first | exact Or.inl rfl | exact Or.inr rfl | assumption | omega) ?_
    first | (rw [dt_bT (show kOf 3 b by unfold kOf; omega)]; exact ⟨rfl, rfl, rfl⟩) | (rw [dt_bF (show ¬ kOf 3 b by unfold kOf; omega)]; exact ⟨rfl, rfl, rfl⟩)
theorem s_X11_isOfKind_1 {sh : List dt_Shp} {σ : dt_Mem} {w : Nat} {tags : List Nat} {b : Int} (hs : sh[w]? = some (.inl (1, tags))) (hb : 0 ≤ b ∧ b ≤ 5) : dt_Sp mX11_isOfKind 0 0 0 [dt_R w, dt_I b] sh σ (fun v sh2 σ2 => v = some (dt_I (dt_b (kOf 4 b))) ∧ sh2 = sh ∧ σ2 = σ) := by
  refine dt_Sp_of (by decide) (Nat.le_of_ble_eq_true rfl) ?_
  refine dt_wfV fun hwf => ?_
  show dt_V _ _ _ 0 0 0 [some (dt_R w), some (dt_I b)] [] _ _
  refine dt_iloadn dX11_isOfKind_0 rfl rfl ?_
  by_cases s1 : b = 1
  · refine dt_tblI (off := 35) (tgt := 36) dX11_isOfKind_1 (by first | assumption | exact hwf _ _ | exact dt_b32 _ | omega | exact ⟨by omega, by omega⟩ | decide | exact ⟨by simp (disch := omega) only [dt_up_s, dt_up_k, dt_up_n]; omega, by simp (disch := omega) only [dt_up_s, dt_up_k, dt_up_n]; omega⟩) (by omega) (by omega) (by rw [s1]; rfl) (by decide) ?_
    refine dt_aloadn dX11_isOfKind_36 rfl rfl ?_
    refine dt_instN dX11_isOfKind_37 pl_X11_290 hs rfl (by decide +kernel) ?_
    refine dt_zret dX11_isOfKind_40 rfl (by decide) (by decide) (by first | exact Or.inl rfl | exact Or.inr rfl | assumption | omega) ?_
    first | (rw [dt_bT (show kOf 4 b by unfold kOf; omega)]; exact ⟨rfl, rfl, rfl⟩) | (rw [dt_bF (show ¬ kOf 4 b by unfold kOf; omega)]; exact ⟨rfl, rfl, rfl⟩)
  by_cases s2 : b = 2
  · refine dt_tblI (off := 40) (tgt := 41) dX11_isOfKind_1 (by first | assumption | exact hwf _ _ | exact dt_b32 _ | omega | exact ⟨by omega, by omega⟩ | decide | exact ⟨by simp (disch := omega) only [dt_up_s, dt_up_k, dt_up_n]; omega, by simp (disch := omega) only [dt_up_s, dt_up_k, dt_up_n]; omega⟩) (by omega) (by omega) (by rw [s2]; rfl) (by decide) ?_
    refine dt_aloadn dX11_isOfKind_41 rfl rfl ?_
    refine dt_instN dX11_isOfKind_42 pl_X11_294 hs rfl (by decide +kernel) ?_
    refine dt_zret dX11_isOfKind_45 rfl (by decide) (by decide) (by first | exact Or.inl rfl | exact Or.inr rfl | assumption | omega) ?_
    first | (rw [dt_bT (show kOf 4 b by unfold kOf; omega)]; exact ⟨rfl, rfl, rfl⟩) | (rw [dt_bF (show ¬ kOf 4 b by unfold kOf; omega)]; exact ⟨rfl, rfl, rfl⟩)
  by_cases s3 : b = 3
  · refine dt_tblI (off := 45) (tgt := 46) dX11_isOfKind_1 (by first | assumption | exact hwf _ _ | exact dt_b32 _ | omega | exact ⟨by omega, by omega⟩ | decide | exact ⟨by simp (disch := omega) only [dt_up_s, dt_up_k, dt_up_n]; omega, by simp (disch := omega) only [dt_up_s, dt_up_k, dt_up_n]; omega⟩) (by omega) (by omega) (by rw [s3]; rfl) (by decide) ?_
    refine dt_aloadn dX11_isOfKind_46 rfl rfl ?_
    refine dt_instN dX11_isOfKind_47 pl_X11_297 hs rfl (by decide +kernel) ?_
    refine dt_zret dX11_isOfKind_50 rfl (by decide) (by decide) (by first | exact Or.inl rfl | exact Or.inr rfl | assumption | omega) ?_
    first | (rw [dt_bT (show kOf 4 b by unfold kOf; omega)]; exact ⟨rfl, rfl, rfl⟩) | (rw [dt_bF (show ¬ kOf 4 b by unfold kOf; omega)]; exact ⟨rfl, rfl, rfl⟩)
  by_cases s4 : b = 4
  · refine dt_tblI (off := 50) (tgt := 51) dX11_isOfKind_1 (by first | assumption | exact hwf _ _ | exact dt_b32 _ | omega | exact ⟨by omega, by omega⟩ | decide | exact ⟨by simp (disch := omega) only [dt_up_s, dt_up_k, dt_up_n]; omega, by simp (disch := omega) only [dt_up_s, dt_up_k, dt_up_n]; omega⟩) (by omega) (by omega) (by rw [s4]; rfl) (by decide) ?_
    refine dt_aloadn dX11_isOfKind_51 rfl rfl ?_
    refine dt_instY dX11_isOfKind_52 pl_X11_300 hs rfl (Or.inl rfl) ?_
    refine dt_zret dX11_isOfKind_55 rfl (by decide) (by decide) (by first | exact Or.inl rfl | exact Or.inr rfl | assumption | omega) ?_
    first | (rw [dt_bT (show kOf 4 b by unfold kOf; omega)]; exact ⟨rfl, rfl, rfl⟩) | (rw [dt_bF (show ¬ kOf 4 b by unfold kOf; omega)]; exact ⟨rfl, rfl, rfl⟩)
  by_cases s5 : b = 5
  · refine dt_tblI (off := 55) (tgt := 56) dX11_isOfKind_1 (by first | assumption | exact hwf _ _ | exact dt_b32 _ | omega | exact ⟨by omega, by omega⟩ | decide | exact ⟨by simp (disch := omega) only [dt_up_s, dt_up_k, dt_up_n]; omega, by simp (disch := omega) only [dt_up_s, dt_up_k, dt_up_n]; omega⟩) (by omega) (by omega) (by rw [s5]; rfl) (by decide) ?_
    refine dt_aloadn dX11_isOfKind_56 rfl rfl ?_
    refine dt_instN dX11_isOfKind_57 pl_X11_303 hs rfl (by decide +kernel) ?_
    refine dt_zret dX11_isOfKind_60 rfl (by decide) (by decide) (by first | exact Or.inl rfl | exact Or.inr rfl | assumption | omega) ?_
    first | (rw [dt_bT (show kOf 4 b by unfold kOf; omega)]; exact ⟨rfl, rfl, rfl⟩) | (rw [dt_bF (show ¬ kOf 4 b by unfold kOf; omega)]; exact ⟨rfl, rfl, rfl⟩)
  refine dt_tblO (tgt := 61) dX11_isOfKind_1 (by first | assumption | exact hwf _ _ | exact dt_b32 _ | omega | exact ⟨by omega, by omega⟩ | decide | exact ⟨by simp (disch := omega) only [dt_up_s, dt_up_k, dt_up_n]; omega, by simp (disch := omega) only [dt_up_s, dt_up_k, dt_up_n]; omega⟩) (by omega) (by decide) ?_
  refine dt_iloadn dX11_isOfKind_61 rfl rfl ?_
  refine dt_if_ne (tgt := 69) dX11_isOfKind_62 (by decide) (by first | assumption | exact hwf _ _ | exact dt_b32 _ | omega | exact ⟨by omega, by omega⟩ | decide | exact ⟨by simp (disch := omega) only [dt_up_s, dt_up_k, dt_up_n]; omega, by simp (disch := omega) only [dt_up_s, dt_up_k, dt_up_n]; omega⟩) (fun c6 => ?_) (fun c6 => ?_)
  · skip
    refine dt_iconst dX11_isOfKind_69 ?_
    refine dt_zret dX11_isOfKind_70 rfl (by decide) (by decide) (by first | exact Or.inl rfl | exact Or.inr rfl | assumption | omega) ?_
    first | (rw [dt_bT (show kOf 4 b by unfold kOf; omega)]; exact ⟨rfl, rfl, rfl⟩) | (rw [dt_bF (show ¬ kOf 4 b by unfold kOf; omega)]; exact ⟨rfl, rfl, rfl⟩)
  · skip
    refine dt_iconst dX11_isOfKind_65 ?_
    refine dt_goto (tgt := 70) dX11_isOfKind_66 (by decide) ?_
    refine dt_zret dX11_isOfKind_70 rfl (by decide) (by decide) (by first | exact Or.inl rfl | exact Or.inr rfl | assumption | omega) ?_
    first | (rw [dt_bT (show kOf 4 b by unfold kOf; omega)]; exact ⟨rfl, rfl, rfl⟩) | (rw [dt_bF (show ¬ kOf 4 b by unfold kOf; omega)]; exact ⟨rfl, rfl, rfl⟩)
theorem s_X11_isOfKind_3 {sh : List dt_Shp} {σ : dt_Mem} {w : Nat} {tags : List Nat} {b : Int} (hs : sh[w]? = some (.inl (3, tags))) (hb : 0 ≤ b ∧ b ≤ 5) : dt_Sp mX11_isOfKind 0 0 0 [dt_R w, dt_I b] sh σ (fun v sh2 σ2 => v = some (dt_I (dt_b (kOf 5 b))) ∧ sh2 = sh ∧ σ2 = σ) := by
  refine dt_Sp_of (by decide) (Nat.le_of_ble_eq_true rfl) ?_
  refine dt_wfV fun hwf => ?_
  show dt_V _ _ _ 0 0 0 [some (dt_R w), some (dt_I b)] [] _ _
  refine dt_iloadn dX11_isOfKind_0 rfl rfl ?_
  by_cases s1 : b = 1
  · refine dt_tblI (off := 35) (tgt := 36) dX11_isOfKind_1 (by first | assumption | exact hwf _ _ | exact dt_b32 _ | omega | exact ⟨by omega, by omega⟩ | decide | exact ⟨by simp (disch := omega) only [dt_up_s, dt_up_k, dt_up_n]; omega, by simp (disch := omega) only [dt_up_s, dt_up_k, dt_up_n]; omega⟩) (by omega) (by omega) (by rw [s1]; rfl) (by decide) ?_
    refine dt_aloadn dX11_isOfKind_36 rfl rfl ?_
    refine dt_instN dX11_isOfKind_37 pl_X11_290 hs rfl (by decide +kernel) ?_
    refine dt_zret dX11_isOfKind_40 rfl (by decide) (by decide) (by first | exact Or.inl rfl | exact Or.inr rfl | assumption | omega) ?_
    first | (rw [dt_bT (show kOf 5 b by unfold kOf; omega)]; exact ⟨rfl, rfl, rfl⟩) | (rw [dt_bF (show ¬ kOf 5 b by unfold kOf; omega)]; exact ⟨rfl, rfl, rfl⟩)
  by_cases s2 : b = 2
  · refine dt_tblI (off := 40) (tgt := 41) dX11_isOfKind_1 (by first | assumption | exact hwf _ _ | exact dt_b32 _ | omega | exact ⟨by omega, by omega⟩ | decide | exact ⟨by simp (disch := omega) only [dt_up_s, dt_up_k, dt_up_n]; omega, by simp (disch := omega) only [dt_up_s, dt_up_k, dt_up_n]; omega⟩) (by omega) (by omega) (by rw [s2]; rfl) (by decide) ?_
    refine dt_aloadn dX11_isOfKind_41 rfl rfl ?_
    refine dt_instN dX11_isOfKind_42 pl_X11_294 hs rfl (by decide +kernel) ?_
    refine dt_zret dX11_isOfKind_45 rfl (by decide) (by decide) (by first | exact Or.inl rfl | exact Or.inr rfl | assumption | omega) ?_
    first | (rw [dt_bT (show kOf 5 b by unfold kOf; omega)]; exact ⟨rfl, rfl, rfl⟩) | (rw [dt_bF (show ¬ kOf 5 b by unfold kOf; omega)]; exact ⟨rfl, rfl, rfl⟩)
  by_cases s3 : b = 3
  · refine dt_tblI (off := 45) (tgt := 46) dX11_isOfKind_1 (by first | assumption | exact hwf _ _ | exact dt_b32 _ | omega | exact ⟨by omega, by omega⟩ | decide | exact ⟨by simp (disch := omega) only [dt_up_s, dt_up_k, dt_up_n]; omega, by simp (disch := omega) only [dt_up_s, dt_up_k, dt_up_n]; omega⟩) (by omega) (by omega) (by rw [s3]; rfl) (by decide) ?_
    refine dt_aloadn dX11_isOfKind_46 rfl rfl ?_
    refine dt_instN dX11_isOfKind_47 pl_X11_297 hs rfl (by decide +kernel) ?_
    refine dt_zret dX11_isOfKind_50 rfl (by decide) (by decide) (by first | exact Or.inl rfl | exact Or.inr rfl | assumption | omega) ?_
    first | (rw [dt_bT (show kOf 5 b by unfold kOf; omega)]; exact ⟨rfl, rfl, rfl⟩) | (rw [dt_bF (show ¬ kOf 5 b by unfold kOf; omega)]; exact ⟨rfl, rfl, rfl⟩)
  by_cases s4 : b = 4
  · refine dt_tblI (off := 50) (tgt := 51) dX11_isOfKind_1 (by first | assumption | exact hwf _ _ | exact dt_b32 _ | omega | exact ⟨by omega, by omega⟩ | decide | exact ⟨by simp (disch := omega) only [dt_up_s, dt_up_k, dt_up_n]; omega, by simp (disch := omega) only [dt_up_s, dt_up_k, dt_up_n]; omega⟩) (by omega) (by omega) (by rw [s4]; rfl) (by decide) ?_
    refine dt_aloadn dX11_isOfKind_51 rfl rfl ?_
    refine dt_instY dX11_isOfKind_52 pl_X11_300 hs rfl (Or.inr (by decide +kernel)) ?_
    refine dt_zret dX11_isOfKind_55 rfl (by decide) (by decide) (by first | exact Or.inl rfl | exact Or.inr rfl | assumption | omega) ?_
    first | (rw [dt_bT (show kOf 5 b by unfold kOf; omega)]; exact ⟨rfl, rfl, rfl⟩) | (rw [dt_bF (show ¬ kOf 5 b by unfold kOf; omega)]; exact ⟨rfl, rfl, rfl⟩)
  by_cases s5 : b = 5
  · refine dt_tblI (off := 55) (tgt := 56) dX11_isOfKind_1 (by first | assumption | exact hwf _ _ | exact dt_b32 _ | omega | exact ⟨by omega, by omega⟩ | decide | exact ⟨by simp (disch := omega) only [dt_up_s, dt_up_k, dt_up_n]; omega, by simp (disch := omega) only [dt_up_s, dt_up_k, dt_up_n]; omega⟩) (by omega) (by omega) (by rw [s5]; rfl) (by decide) ?_
    refine dt_aloadn dX11_isOfKind_56 rfl rfl ?_
    refine dt_instY dX11_isOfKind_57 pl_X11_303 hs rfl (Or.inl rfl) ?_
    refine dt_zret dX11_isOfKind_60 rfl (by decide) (by decide) (by first | exact Or.inl rfl | exact Or.inr rfl | assumption | omega) ?_
    first | (rw [dt_bT (show kOf 5 b by unfold kOf; omega)]; exact ⟨rfl, rfl, rfl⟩) | (rw [dt_bF (show ¬ kOf 5 b by unfold kOf; omega)]; exact ⟨rfl, rfl, rfl⟩)
  refine dt_tblO (tgt := 61) dX11_isOfKind_1 (by first | assumption | exact hwf _ _ | exact dt_b32 _ | omega | exact ⟨by omega, by omega⟩ | decide | exact ⟨by simp (disch := omega) only [dt_up_s, dt_up_k, dt_up_n]; omega, by simp (disch := omega) only [dt_up_s, dt_up_k, dt_up_n]; omega⟩) (by omega) (by decide) ?_
  refine dt_iloadn dX11_isOfKind_61 rfl rfl ?_
  refine dt_if_ne (tgt := 69) dX11_isOfKind_62 (by decide) (by first | assumption | exact hwf _ _ | exact dt_b32 _ | omega | exact ⟨by omega, by omega⟩ | decide | exact ⟨by simp (disch := omega) only [dt_up_s, dt_up_k, dt_up_n]; omega, by simp (disch := omega) only [dt_up_s, dt_up_k, dt_up_n]; omega⟩) (fun c6 => ?_) (fun c6 => ?_)
  · skip
    refine dt_iconst dX11_isOfKind_69 ?_
    refine dt_zret dX11_isOfKind_70 rfl (by decide) (by decide) (by first | exact Or.inl rfl | exact Or.inr rfl | assumption | omega) ?_
    first | (rw [dt_bT (show kOf 5 b by unfold kOf; omega)]; exact ⟨rfl, rfl, rfl⟩) | (rw [dt_bF (show ¬ kOf 5 b by unfold kOf; omega)]; exact ⟨rfl, rfl, rfl⟩)
  · skip
    refine dt_iconst dX11_isOfKind_65 ?_
    refine dt_goto (tgt := 70) dX11_isOfKind_66 (by decide) ?_
    refine dt_zret dX11_isOfKind_70 rfl (by decide) (by decide) (by first | exact Or.inl rfl | exact Or.inr rfl | assumption | omega) ?_
    first | (rw [dt_bT (show kOf 5 b by unfold kOf; omega)]; exact ⟨rfl, rfl, rfl⟩) | (rw [dt_bF (show ¬ kOf 5 b by unfold kOf; omega)]; exact ⟨rfl, rfl, rfl⟩)
theorem s_X10_step_5 {sh : List dt_Shp} {σ : dt_Mem} {w : Nat} {l : List Int} {i : Int} (hO : wO sh w 5) (hT : wT σ w l) (hl : l.length ≤ 16) (hi : dt_in32 i) : dt_Sp mX10_step 0 0 0 [dt_R w, dt_I i] sh σ (fun v sh2 σ2 => v = some (dt_I (if 0 ≤ i ∧ i < l.length then l.getD i.toNat 0 else -1000000)) ∧ sh2 = sh ∧ σ2 = σ) := by
  refine dt_Sp_of (by decide) (Nat.le_of_ble_eq_true rfl) ?_
  refine dt_wfV fun hwf => ?_
  have h3 := hT.1
  show dt_V _ _ _ 0 0 0 [some (dt_R w), some (dt_I i)] [] _ _
  refine dt_iconst dX10_step_0 ?_
  refine dt_iloadn dX10_step_1 rfl rfl ?_
  refine dt_cm_gt (tgt := 28) dX10_step_2 (by decide) (by first | assumption | exact hwf _ _ | exact dt_b32 _ | omega | exact ⟨by omega, by omega⟩ | decide | exact ⟨by simp (disch := omega) only [dt_up_s, dt_up_k, dt_up_n]; omega, by simp (disch := omega) only [dt_up_s, dt_up_k, dt_up_n]; omega⟩) (by first | assumption | exact hwf _ _ | exact dt_b32 _ | omega | exact ⟨by omega, by omega⟩ | decide | exact ⟨by simp (disch := omega) only [dt_up_s, dt_up_k, dt_up_n]; omega, by simp (disch := omega) only [dt_up_s, dt_up_k, dt_up_n]; omega⟩) (fun c1 => ?_) (fun c1 => ?_)
  · skip
    refine dt_ldc dX10_step_28 pk_X10_29 ?_
    refine dt_iret dX10_step_30 rfl (by decide) (by decide) ?_
    first | (rw [if_pos (by omega), dt_gd hx]; exact ⟨rfl, rfl, rfl⟩) | (rw [if_neg (by omega)]; exact ⟨rfl, rfl, rfl⟩)
  · skip
    refine dt_iloadn dX10_step_5 rfl rfl ?_
    refine dt_aloadn dX10_step_6 rfl rfl ?_
    refine dt_getI dX10_step_7 pg_X10_22_5 hO.1 rfl ?_
    refine dt_cm_ge (tgt := 28) dX10_step_10 (by decide) (by first | assumption | exact hwf _ _ | exact dt_b32 _ | omega | exact ⟨by omega, by omega⟩ | decide | exact ⟨by simp (disch := omega) only [dt_up_s, dt_up_k, dt_up_n]; omega, by simp (disch := omega) only [dt_up_s, dt_up_k, dt_up_n]; omega⟩) (by first | assumption | exact hwf _ _ | exact dt_b32 _ | omega | exact ⟨by omega, by omega⟩ | decide | exact ⟨by simp (disch := omega) only [dt_up_s, dt_up_k, dt_up_n]; omega, by simp (disch := omega) only [dt_up_s, dt_up_k, dt_up_n]; omega⟩) (fun c2 => ?_) (fun c2 => ?_)
    · skip
      refine dt_ldc dX10_step_28 pk_X10_29 ?_
      refine dt_iret dX10_step_30 rfl (by decide) (by decide) ?_
      first | (rw [if_pos (by omega), dt_gd hx]; exact ⟨rfl, rfl, rfl⟩) | (rw [if_neg (by omega)]; exact ⟨rfl, rfl, rfl⟩)
    · skip
      refine dt_iloadn dX10_step_13 rfl rfl ?_
      refine dt_bipush dX10_step_14 (by decide) ?_
      refine dt_cm_ge (tgt := 28) dX10_step_16 (by decide) (by first | assumption | exact hwf _ _ | exact dt_b32 _ | omega | exact ⟨by omega, by omega⟩ | decide | exact ⟨by simp (disch := omega) only [dt_up_s, dt_up_k, dt_up_n]; omega, by simp (disch := omega) only [dt_up_s, dt_up_k, dt_up_n]; omega⟩) (by first | assumption | exact hwf _ _ | exact dt_b32 _ | omega | exact ⟨by omega, by omega⟩ | decide | exact ⟨by simp (disch := omega) only [dt_up_s, dt_up_k, dt_up_n]; omega, by simp (disch := omega) only [dt_up_s, dt_up_k, dt_up_n]; omega⟩) (fun c3 => ?_) (fun c3 => ?_)
      · skip
        refine dt_ldc dX10_step_28 pk_X10_29 ?_
        refine dt_iret dX10_step_30 rfl (by decide) (by decide) ?_
        first | (rw [if_pos (by omega), dt_gd hx]; exact ⟨rfl, rfl, rfl⟩) | (rw [if_neg (by omega)]; exact ⟨rfl, rfl, rfl⟩)
      · skip
        obtain ⟨i, rfl⟩ : ∃ z : Nat, i = z := ⟨i.toNat, by omega⟩
        obtain ⟨x, hx⟩ := dt_lg (l := l) (i := i) (by omega)
        have hv := hT.2 i x hx
        refine dt_aloadn dX10_step_19 rfl rfl ?_
        refine dt_getR dX10_step_20 pg_X10_18_5 hO.1 rfl ?_
        refine dt_iloadn dX10_step_23 rfl rfl ?_
        refine dt_iald dX10_step_24 hO.2 (by first | omega | (simp (disch := omega) only [dt_up_s, dt_up_k, dt_up_n]; omega)) (by first | omega | (simp (disch := omega) only [dt_up_s, dt_up_k, dt_up_n]; omega)) (by decide) ?_
        rw [Int.toNat_natCast, hv]
        refine dt_goto (tgt := 30) dX10_step_25 (by decide) ?_
        refine dt_iret dX10_step_30 rfl (by decide) (by decide) ?_
        first | (rw [if_pos (by omega), dt_gd hx]; exact ⟨rfl, rfl, rfl⟩) | (rw [if_neg (by omega)]; exact ⟨rfl, rfl, rfl⟩)
theorem s_X10_step_0 {sh : List dt_Shp} {σ : dt_Mem} {w : Nat} {l : List Int} {i : Int} (hO : wO sh w 0) (hT : wT σ w l) (hl : l.length ≤ 16) (hi : dt_in32 i) : dt_Sp mX10_step 0 0 0 [dt_R w, dt_I i] sh σ (fun v sh2 σ2 => v = some (dt_I (if 0 ≤ i ∧ i < l.length then l.getD i.toNat 0 else -1000000)) ∧ sh2 = sh ∧ σ2 = σ) := by
  refine dt_Sp_of (by decide) (Nat.le_of_ble_eq_true rfl) ?_
  refine dt_wfV fun hwf => ?_
  have h3 := hT.1
  show dt_V _ _ _ 0 0 0 [some (dt_R w), some (dt_I i)] [] _ _
  refine dt_iconst dX10_step_0 ?_
  refine dt_iloadn dX10_step_1 rfl rfl ?_
  refine dt_cm_gt (tgt := 28) dX10_step_2 (by decide) (by first | assumption | exact hwf _ _ | exact dt_b32 _ | omega | exact ⟨by omega, by omega⟩ | decide | exact ⟨by simp (disch := omega) only [dt_up_s, dt_up_k, dt_up_n]; omega, by simp (disch := omega) only [dt_up_s, dt_up_k, dt_up_n]; omega⟩) (by first | assumption | exact hwf _ _ | exact dt_b32 _ | omega | exact ⟨by omega, by omega⟩ | decide | exact ⟨by simp (disch := omega) only [dt_up_s, dt_up_k, dt_up_n]; omega, by simp (disch := omega) only [dt_up_s, dt_up_k, dt_up_n]; omega⟩) (fun c1 => ?_) (fun c1 => ?_)
  · skip
    refine dt_ldc dX10_step_28 pk_X10_29 ?_
    refine dt_iret dX10_step_30 rfl (by decide) (by decide) ?_
    first | (rw [if_pos (by omega), dt_gd hx]; exact ⟨rfl, rfl, rfl⟩) | (rw [if_neg (by omega)]; exact ⟨rfl, rfl, rfl⟩)
  · skip
    refine dt_iloadn dX10_step_5 rfl rfl ?_
    refine dt_aloadn dX10_step_6 rfl rfl ?_
    refine dt_getI dX10_step_7 pg_X10_22_0 hO.1 rfl ?_
    refine dt_cm_ge (tgt := 28) dX10_step_10 (by decide) (by first | assumption | exact hwf _ _ | exact dt_b32 _ | omega | exact ⟨by omega, by omega⟩ | decide | exact ⟨by simp (disch := omega) only [dt_up_s, dt_up_k, dt_up_n]; omega, by simp (disch := omega) only [dt_up_s, dt_up_k, dt_up_n]; omega⟩) (by first | assumption | exact hwf _ _ | exact dt_b32 _ | omega | exact ⟨by omega, by omega⟩ | decide | exact ⟨by simp (disch := omega) only [dt_up_s, dt_up_k, dt_up_n]; omega, by simp (disch := omega) only [dt_up_s, dt_up_k, dt_up_n]; omega⟩) (fun c2 => ?_) (fun c2 => ?_)
    · skip
      refine dt_ldc dX10_step_28 pk_X10_29 ?_
      refine dt_iret dX10_step_30 rfl (by decide) (by decide) ?_
      first | (rw [if_pos (by omega), dt_gd hx]; exact ⟨rfl, rfl, rfl⟩) | (rw [if_neg (by omega)]; exact ⟨rfl, rfl, rfl⟩)
    · skip
      refine dt_iloadn dX10_step_13 rfl rfl ?_
      refine dt_bipush dX10_step_14 (by decide) ?_
      refine dt_cm_ge (tgt := 28) dX10_step_16 (by decide) (by first | assumption | exact hwf _ _ | exact dt_b32 _ | omega | exact ⟨by omega, by omega⟩ | decide | exact ⟨by simp (disch := omega) only [dt_up_s, dt_up_k, dt_up_n]; omega, by simp (disch := omega) only [dt_up_s, dt_up_k, dt_up_n]; omega⟩) (by first | assumption | exact hwf _ _ | exact dt_b32 _ | omega | exact ⟨by omega, by omega⟩ | decide | exact ⟨by simp (disch := omega) only [dt_up_s, dt_up_k, dt_up_n]; omega, by simp (disch := omega) only [dt_up_s, dt_up_k, dt_up_n]; omega⟩) (fun c3 => ?_) (fun c3 => ?_)
      · skip
        refine dt_ldc dX10_step_28 pk_X10_29 ?_
        refine dt_iret dX10_step_30 rfl (by decide) (by decide) ?_
        first | (rw [if_pos (by omega), dt_gd hx]; exact ⟨rfl, rfl, rfl⟩) | (rw [if_neg (by omega)]; exact ⟨rfl, rfl, rfl⟩)
      · skip
        obtain ⟨i, rfl⟩ : ∃ z : Nat, i = z := ⟨i.toNat, by omega⟩
        obtain ⟨x, hx⟩ := dt_lg (l := l) (i := i) (by omega)
        have hv := hT.2 i x hx
        refine dt_aloadn dX10_step_19 rfl rfl ?_
        refine dt_getR dX10_step_20 pg_X10_18_0 hO.1 rfl ?_
        refine dt_iloadn dX10_step_23 rfl rfl ?_
        refine dt_iald dX10_step_24 hO.2 (by first | omega | (simp (disch := omega) only [dt_up_s, dt_up_k, dt_up_n]; omega)) (by first | omega | (simp (disch := omega) only [dt_up_s, dt_up_k, dt_up_n]; omega)) (by decide) ?_
        rw [Int.toNat_natCast, hv]
        refine dt_goto (tgt := 30) dX10_step_25 (by decide) ?_
        refine dt_iret dX10_step_30 rfl (by decide) (by decide) ?_
        first | (rw [if_pos (by omega), dt_gd hx]; exact ⟨rfl, rfl, rfl⟩) | (rw [if_neg (by omega)]; exact ⟨rfl, rfl, rfl⟩)
theorem s_X10_step_2 {sh : List dt_Shp} {σ : dt_Mem} {w : Nat} {l : List Int} {i : Int} (hO : wO sh w 2) (hT : wT σ w l) (hl : l.length ≤ 16) (hi : dt_in32 i) : dt_Sp mX10_step 0 0 0 [dt_R w, dt_I i] sh σ (fun v sh2 σ2 => v = some (dt_I (if 0 ≤ i ∧ i < l.length then l.getD i.toNat 0 else -1000000)) ∧ sh2 = sh ∧ σ2 = σ) := by
  refine dt_Sp_of (by decide) (Nat.le_of_ble_eq_true rfl) ?_
  refine dt_wfV fun hwf => ?_
  have h3 := hT.1
  show dt_V _ _ _ 0 0 0 [some (dt_R w), some (dt_I i)] [] _ _
  refine dt_iconst dX10_step_0 ?_
  refine dt_iloadn dX10_step_1 rfl rfl ?_
  refine dt_cm_gt (tgt := 28) dX10_step_2 (by decide) (by first | assumption | exact hwf _ _ | exact dt_b32 _ | omega | exact ⟨by omega, by omega⟩ | decide | exact ⟨by simp (disch := omega) only [dt_up_s, dt_up_k, dt_up_n]; omega, by simp (disch := omega) only [dt_up_s, dt_up_k, dt_up_n]; omega⟩) (by first | assumption | exact hwf _ _ | exact dt_b32 _ | omega | exact ⟨by omega, by omega⟩ | decide | exact ⟨by simp (disch := omega) only [dt_up_s, dt_up_k, dt_up_n]; omega, by simp (disch := omega) only [dt_up_s, dt_up_k, dt_up_n]; omega⟩) (fun c1 => ?_) (fun c1 => ?_)
  · skip
    refine dt_ldc dX10_step_28 pk_X10_29 ?_
    refine dt_iret dX10_step_30 rfl (by decide) (by decide) ?_
    first | (rw [if_pos (by omega), dt_gd hx]; exact ⟨rfl, rfl, rfl⟩) | (rw [if_neg (by omega)]; exact ⟨rfl, rfl, rfl⟩)
  · skip
    refine dt_iloadn dX10_step_5 rfl rfl ?_
    refine dt_aloadn dX10_step_6 rfl rfl ?_
    refine dt_getI dX10_step_7 pg_X10_22_2 hO.1 rfl ?_
    refine dt_cm_ge (tgt := 28) dX10_step_10 (by decide) (by first | assumption | exact hwf _ _ | exact dt_b32 _ | omega | exact ⟨by omega, by omega⟩ | decide | exact ⟨by simp (disch := omega) only [dt_up_s, dt_up_k, dt_up_n]; omega, by simp (disch := omega) only [dt_up_s, dt_up_k, dt_up_n]; omega⟩) (by first | assumption | exact hwf _ _ | exact dt_b32 _ | omega | exact ⟨by omega, by omega⟩ | decide | exact ⟨by simp (disch := omega) only [dt_up_s, dt_up_k, dt_up_n]; omega, by simp (disch := omega) only [dt_up_s, dt_up_k, dt_up_n]; omega⟩) (fun c2 => ?_) (fun c2 => ?_)
    · skip
      refine dt_ldc dX10_step_28 pk_X10_29 ?_
      refine dt_iret dX10_step_30 rfl (by decide) (by decide) ?_
      first | (rw [if_pos (by omega), dt_gd hx]; exact ⟨rfl, rfl, rfl⟩) | (rw [if_neg (by omega)]; exact ⟨rfl, rfl, rfl⟩)
    · skip
      refine dt_iloadn dX10_step_13 rfl rfl ?_
      refine dt_bipush dX10_step_14 (by decide) ?_
      refine dt_cm_ge (tgt := 28) dX10_step_16 (by decide) (by first | assumption | exact hwf _ _ | exact dt_b32 _ | omega | exact ⟨by omega, by omega⟩ | decide | exact ⟨by simp (disch := omega) only [dt_up_s, dt_up_k, dt_up_n]; omega, by simp (disch := omega) only [dt_up_s, dt_up_k, dt_up_n]; omega⟩) (by first | assumption | exact hwf _ _ | exact dt_b32 _ | omega | exact ⟨by omega, by omega⟩ | decide | exact ⟨by simp (disch := omega) only [dt_up_s, dt_up_k, dt_up_n]; omega, by simp (disch := omega) only [dt_up_s, dt_up_k, dt_up_n]; omega⟩) (fun c3 => ?_) (fun c3 => ?_)
      · skip
        refine dt_ldc dX10_step_28 pk_X10_29 ?_
        refine dt_iret dX10_step_30 rfl (by decide) (by decide) ?_
        first | (rw [if_pos (by omega), dt_gd hx]; exact ⟨rfl, rfl, rfl⟩) | (rw [if_neg (by omega)]; exact ⟨rfl, rfl, rfl⟩)
      · skip
        obtain ⟨i, rfl⟩ : ∃ z : Nat, i = z := ⟨i.toNat, by omega⟩
        obtain ⟨x, hx⟩ := dt_lg (l := l) (i := i) (by omega)
        have hv := hT.2 i x hx
        refine dt_aloadn dX10_step_19 rfl rfl ?_
        refine dt_getR dX10_step_20 pg_X10_18_2 hO.1 rfl ?_
        refine dt_iloadn dX10_step_23 rfl rfl ?_
        refine dt_iald dX10_step_24 hO.2 (by first | omega | (simp (disch := omega) only [dt_up_s, dt_up_k, dt_up_n]; omega)) (by first | omega | (simp (disch := omega) only [dt_up_s, dt_up_k, dt_up_n]; omega)) (by decide) ?_
        rw [Int.toNat_natCast, hv]
        refine dt_goto (tgt := 30) dX10_step_25 (by decide) ?_
        refine dt_iret dX10_step_30 rfl (by decide) (by decide) ?_
        first | (rw [if_pos (by omega), dt_gd hx]; exact ⟨rfl, rfl, rfl⟩) | (rw [if_neg (by omega)]; exact ⟨rfl, rfl, rfl⟩)
theorem s_X10_step_1 {sh : List dt_Shp} {σ : dt_Mem} {w : Nat} {l : List Int} {i : Int} (hO : wO sh w 1) (hT : wT σ w l) (hl : l.length ≤ 16) (hi : dt_in32 i) : dt_Sp mX10_step 0 0 0 [dt_R w, dt_I i] sh σ (fun v sh2 σ2 => v = some (dt_I (if 0 ≤ i ∧ i < l.length then l.getD i.toNat 0 else -1000000)) ∧ sh2 = sh ∧ σ2 = σ) := by
  refine dt_Sp_of (by decide) (Nat.le_of_ble_eq_true rfl) ?_
  refine dt_wfV fun hwf => ?_
  have h3 := hT.1
  show dt_V _ _ _ 0 0 0 [some (dt_R w), some (dt_I i)] [] _ _
  refine dt_iconst dX10_step_0 ?_
  refine dt_iloadn dX10_step_1 rfl rfl ?_
  refine dt_cm_gt (tgt := 28) dX10_step_2 (by decide) (by first | assumption | exact hwf _ _ | exact dt_b32 _ | omega | exact ⟨by omega, by omega⟩ | decide | exact ⟨by simp (disch := omega) only [dt_up_s, dt_up_k, dt_up_n]; omega, by simp (disch := omega) only [dt_up_s, dt_up_k, dt_up_n]; omega⟩) (by first | assumption | exact hwf _ _ | exact dt_b32 _ | omega | exact ⟨by omega, by omega⟩ | decide | exact ⟨by simp (disch := omega) only [dt_up_s, dt_up_k, dt_up_n]; omega, by simp (disch := omega) only [dt_up_s, dt_up_k, dt_up_n]; omega⟩) (fun c1 => ?_) (fun c1 => ?_)
  · skip
    refine dt_ldc dX10_step_28 pk_X10_29 ?_
    refine dt_iret dX10_step_30 rfl (by decide) (by decide) ?_
    first | (rw [if_pos (by omega), dt_gd hx]; exact ⟨rfl, rfl, rfl⟩) | (rw [if_neg (by omega)]; exact ⟨rfl, rfl, rfl⟩)
  · skip
    refine dt_iloadn dX10_step_5 rfl rfl ?_
    refine dt_aloadn dX10_step_6 rfl rfl ?_
    refine dt_getI dX10_step_7 pg_X10_22_1 hO.1 rfl ?_
    refine dt_cm_ge (tgt := 28) dX10_step_10 (by decide) (by first | assumption | exact hwf _ _ | exact dt_b32 _ | omega | exact ⟨by omega, by omega⟩ | decide | exact ⟨by simp (disch := omega) only [dt_up_s, dt_up_k, dt_up_n]; omega, by simp (disch := omega) only [dt_up_s, dt_up_k, dt_up_n]; omega⟩) (by first | assumption | exact hwf _ _ | exact dt_b32 _ | omega | exact ⟨by omega, by omega⟩ | decide | exact ⟨by simp (disch := omega) only [dt_up_s, dt_up_k, dt_up_n]; omega, by simp (disch := omega) only [dt_up_s, dt_up_k, dt_up_n]; omega⟩) (fun c2 => ?_) (fun c2 => ?_)
    · skip
      refine dt_ldc dX10_step_28 pk_X10_29 ?_
      refine dt_iret dX10_step_30 rfl (by decide) (by decide) ?_
      first | (rw [if_pos (by omega), dt_gd hx]; exact ⟨rfl, rfl, rfl⟩) | (rw [if_neg (by omega)]; exact ⟨rfl, rfl, rfl⟩)
    · skip
      refine dt_iloadn dX10_step_13 rfl rfl ?_
      refine dt_bipush dX10_step_14 (by decide) ?_
      refine dt_cm_ge (tgt := 28) dX10_step_16 (by decide) (by first | assumption | exact hwf _ _ | exact dt_b32 _ | omega | exact ⟨by omega, by omega⟩ | decide | exact ⟨by simp (disch := omega) only [dt_up_s, dt_up_k, dt_up_n]; omega, by simp (disch := omega) only [dt_up_s, dt_up_k, dt_up_n]; omega⟩) (by first | assumption | exact hwf _ _ | exact dt_b32 _ | omega | exact ⟨by omega, by omega⟩ | decide | exact ⟨by simp (disch := omega) only [dt_up_s, dt_up_k, dt_up_n]; omega, by simp (disch := omega) only [dt_up_s, dt_up_k, dt_up_n]; omega⟩) (fun c3 => ?_) (fun c3 => ?_)
      · skip
        refine dt_ldc dX10_step_28 pk_X10_29 ?_
        refine dt_iret dX10_step_30 rfl (by decide) (by decide) ?_
        first | (rw [if_pos (by omega), dt_gd hx]; exact ⟨rfl, rfl, rfl⟩) | (rw [if_neg (by omega)]; exact ⟨rfl, rfl, rfl⟩)
      · skip
        obtain ⟨i, rfl⟩ : ∃ z : Nat, i = z := ⟨i.toNat, by omega⟩
        obtain ⟨x, hx⟩ := dt_lg (l := l) (i := i) (by omega)
        have hv := hT.2 i x hx
        refine dt_aloadn dX10_step_19 rfl rfl ?_
        refine dt_getR dX10_step_20 pg_X10_18_1 hO.1 rfl ?_
        refine dt_iloadn dX10_step_23 rfl rfl ?_
        refine dt_iald dX10_step_24 hO.2 (by first | omega | (simp (disch := omega) only [dt_up_s, dt_up_k, dt_up_n]; omega)) (by first | omega | (simp (disch := omega) only [dt_up_s, dt_up_k, dt_up_n]; omega)) (by decide) ?_
        rw [Int.toNat_natCast, hv]
        refine dt_goto (tgt := 30) dX10_step_25 (by decide) ?_
        refine dt_iret dX10_step_30 rfl (by decide) (by decide) ?_
        first | (rw [if_pos (by omega), dt_gd hx]; exact ⟨rfl, rfl, rfl⟩) | (rw [if_neg (by omega)]; exact ⟨rfl, rfl, rfl⟩)
theorem s_X10_step_3 {sh : List dt_Shp} {σ : dt_Mem} {w : Nat} {l : List Int} {i : Int} (hO : wO sh w 3) (hT : wT σ w l) (hl : l.length ≤ 16) (hi : dt_in32 i) : dt_Sp mX10_step 0 0 0 [dt_R w, dt_I i] sh σ (fun v sh2 σ2 => v = some (dt_I (if 0 ≤ i ∧ i < l.length then l.getD i.toNat 0 else -1000000)) ∧ sh2 = sh ∧ σ2 = σ) := by
  refine dt_Sp_of (by decide) (Nat.le_of_ble_eq_true rfl) ?_
  refine dt_wfV fun hwf => ?_
  have h3 := hT.1
  show dt_V _ _ _ 0 0 0 [some (dt_R w), some (dt_I i)] [] _ _
  refine dt_iconst dX10_step_0 ?_
  refine dt_iloadn dX10_step_1 rfl rfl ?_
  refine dt_cm_gt (tgt := 28) dX10_step_2 (by decide) (by first | assumption | exact hwf _ _ | exact dt_b32 _ | omega | exact ⟨by omega, by omega⟩ | decide | exact ⟨by simp (disch := omega) only [dt_up_s, dt_up_k, dt_up_n]; omega, by simp (disch := omega) only [dt_up_s, dt_up_k, dt_up_n]; omega⟩) (by first | assumption | exact hwf _ _ | exact dt_b32 _ | omega | exact ⟨by omega, by omega⟩ | decide | exact ⟨by simp (disch := omega) only [dt_up_s, dt_up_k, dt_up_n]; omega, by simp (disch := omega) only [dt_up_s, dt_up_k, dt_up_n]; omega⟩) (fun c1 => ?_) (fun c1 => ?_)
  · skip
    refine dt_ldc dX10_step_28 pk_X10_29 ?_
    refine dt_iret dX10_step_30 rfl (by decide) (by decide) ?_
    first | (rw [if_pos (by omega), dt_gd hx]; exact ⟨rfl, rfl, rfl⟩) | (rw [if_neg (by omega)]; exact ⟨rfl, rfl, rfl⟩)
  · skip
    refine dt_iloadn dX10_step_5 rfl rfl ?_
    refine dt_aloadn dX10_step_6 rfl rfl ?_
    refine dt_getI dX10_step_7 pg_X10_22_3 hO.1 rfl ?_
    refine dt_cm_ge (tgt := 28) dX10_step_10 (by decide) (by first | assumption | exact hwf _ _ | exact dt_b32 _ | omega | exact ⟨by omega, by omega⟩ | decide | exact ⟨by simp (disch := omega) only [dt_up_s, dt_up_k, dt_up_n]; omega, by simp (disch := omega) only [dt_up_s, dt_up_k, dt_up_n]; omega⟩) (by first | assumption | exact hwf _ _ | exact dt_b32 _ | omega | exact ⟨by omega, by omega⟩ | decide | exact ⟨by simp (disch := omega) only [dt_up_s, dt_up_k, dt_up_n]; omega, by simp (disch := omega) only [dt_up_s, dt_up_k, dt_up_n]; omega⟩) (fun c2 => ?_) (fun c2 => ?_)
    · skip
      refine dt_ldc dX10_step_28 pk_X10_29 ?_
      refine dt_iret dX10_step_30 rfl (by decide) (by decide) ?_
      first | (rw [if_pos (by omega), dt_gd hx]; exact ⟨rfl, rfl, rfl⟩) | (rw [if_neg (by omega)]; exact ⟨rfl, rfl, rfl⟩)
    · skip
      refine dt_iloadn dX10_step_13 rfl rfl ?_
      refine dt_bipush dX10_step_14 (by decide) ?_
      refine dt_cm_ge (tgt := 28) dX10_step_16 (by decide) (by first | assumption | exact hwf _ _ | exact dt_b32 _ | omega | exact ⟨by omega, by omega⟩ | decide | exact ⟨by simp (disch := omega) only [dt_up_s, dt_up_k, dt_up_n]; omega, by simp (disch := omega) only [dt_up_s, dt_up_k, dt_up_n]; omega⟩) (by first | assumption | exact hwf _ _ | exact dt_b32 _ | omega | exact ⟨by omega, by omega⟩ | decide | exact ⟨by simp (disch := omega) only [dt_up_s, dt_up_k, dt_up_n]; omega, by simp (disch := omega) only [dt_up_s, dt_up_k, dt_up_n]; omega⟩) (fun c3 => ?_) (fun c3 => ?_)
      · skip
        refine dt_ldc dX10_step_28 pk_X10_29 ?_
        refine dt_iret dX10_step_30 rfl (by decide) (by decide) ?_
        first | (rw [if_pos (by omega), dt_gd hx]; exact ⟨rfl, rfl, rfl⟩) | (rw [if_neg (by omega)]; exact ⟨rfl, rfl, rfl⟩)
      · skip
        obtain ⟨i, rfl⟩ : ∃ z : Nat, i = z := ⟨i.toNat, by omega⟩
        obtain ⟨x, hx⟩ := dt_lg (l := l) (i := i) (by omega)
        have hv := hT.2 i x hx
        refine dt_aloadn dX10_step_19 rfl rfl ?_
        refine dt_getR dX10_step_20 pg_X10_18_3 hO.1 rfl ?_
        refine dt_iloadn dX10_step_23 rfl rfl ?_
        refine dt_iald dX10_step_24 hO.2 (by first | omega | (simp (disch := omega) only [dt_up_s, dt_up_k, dt_up_n]; omega)) (by first | omega | (simp (disch := omega) only [dt_up_s, dt_up_k, dt_up_n]; omega)) (by decide) ?_
        rw [Int.toNat_natCast, hv]
        refine dt_goto (tgt := 30) dX10_step_25 (by decide) ?_
        refine dt_iret dX10_step_30 rfl (by decide) (by decide) ?_
        first | (rw [if_pos (by omega), dt_gd hx]; exact ⟨rfl, rfl, rfl⟩) | (rw [if_neg (by omega)]; exact ⟨rfl, rfl, rfl⟩)
theorem s_X11_wordToAsk {ex : List dt_Shp} {σ : dt_Mem} {X : dX} {t w : Nat} {wd : Nat × List Nat} (hX : cP σ 7 X) (hw : xW X t w wd) : dt_Sp mX11_wordToAsk 5 2 21 [dt_R 0, dt_I (t : Int), dt_I (w : Int)] (dt_SH ++ ex) σ (fun v sh2 σ2 => ∃ ci : Nat, v = some (dt_R (dt_SH ++ ex).length) ∧ sh2 = dt_SH ++ (ex ++ [.inl (ci, [0, 0, (dt_SH ++ ex).length + 1 + 4, 0, 0]), .inr (0, 16)]) ∧ (wd.1 = 1 ∧ ci = 5 ∨ wd.1 = 2 ∧ ci = 0 ∨ wd.1 = 3 ∧ ci = 2 ∨ wd.1 = 4 ∧ ci = 1 ∨ wd.1 = 5 ∧ ci = 3) ∧ (σ2 (dt_SH ++ ex).length 0 = w ∧ σ2 (dt_SH ++ ex).length 1 = (wd.2.length : Nat) ∧ σ2 (dt_SH ++ ex).length 4 = (xCom wd.2 : Nat)) ∧ wT σ2 (dt_SH ++ ex).length [] ∧ ∀ b, b < (dt_SH ++ ex).length → σ2 b = σ b) := by
  refine dt_Sp_of (by decide) (Nat.le_of_ble_eq_true rfl) ?_
  refine dt_wfV fun hwf => ?_
  have hc := hX.1
  have c1 := hc.hasW hw
  obtain ⟨g1, g2, g3, g4, g5, g6, g7, g8⟩ := hc.word hw
  obtain ⟨k0, k1, k2, k3⟩ := hX.2.1.wd hw
  have k7 := k3.1
  have k8 := k3.2.1
  have hcl := xCom_lt wd.2
  have ew : ((t : Int) * 8 + (w : Int)).toNat = t * 8 + w := by omega
  show dt_V _ _ _ 0 0 0 [some (dt_R 0), some (dt_I (t : Int)), some (dt_I (w : Int)), none, none] [] _ _
  refine dt_aloadn dX11_wordToAsk_0 rfl rfl ?_
  refine dt_getR dX11_wordToAsk_1 pg_X11_26_11 rfl rfl ?_
  refine dt_iloadn dX11_wordToAsk_4 rfl rfl ?_
  refine dt_iloadn dX11_wordToAsk_5 rfl rfl ?_
  refine dt_xV dX11_wordToAsk_6 pc_X11_149 rfl (s_X6_readingsOf dt_p7 c1) rfl rfl ⟨by decide, by decide⟩ rfl rfl (Nat.le_of_ble_eq_true rfl) ⟨by decide, by decide⟩ (dt_k3 ?_)
  rw [ew, g7]
  refine dt_istoren dX11_wordToAsk_9 rfl (by decide) rfl ?_
  dsimp only [List.set]
  refine dt_aloadn dX11_wordToAsk_10 rfl rfl ?_
  refine dt_getR dX11_wordToAsk_11 pg_X11_26_11 rfl rfl ?_
  refine dt_iloadn dX11_wordToAsk_14 rfl rfl ?_
  refine dt_iloadn dX11_wordToAsk_15 rfl rfl ?_
  refine dt_xV dX11_wordToAsk_16 pc_X11_287 rfl (s_X6_common dt_p7 c1 (by rw [ew]; exact g7) g5 (fun q r hr => ⟨by rw [show (((t : Int) * 8 + (w : Int)) * 3 + (q : Int)).toNat = (t * 8 + w) * 3 + q by omega]; exact g8 q r hr, (k3.2.2.2.2.2 r (List.mem_of_getElem? hr)).2⟩)) rfl rfl ⟨by decide, by decide⟩ rfl rfl (Nat.le_of_ble_eq_true rfl) ⟨by decide, by decide⟩ (dt_k3 ?_)
  refine dt_istore dX11_wordToAsk_19 (by decide) rfl ?_
  dsimp only [List.set]
  refine dt_aloadn dX11_wordToAsk_21 rfl rfl ?_
  refine dt_getR dX11_wordToAsk_22 pg_X11_26_11 rfl rfl ?_
  refine dt_iloadn dX11_wordToAsk_25 rfl rfl ?_
  refine dt_iloadn dX11_wordToAsk_26 rfl rfl ?_
  refine dt_xV dX11_wordToAsk_27 pc_X11_235 rfl (s_X6_kindOf dt_p7 c1) rfl rfl ⟨by decide, by decide⟩ rfl rfl (Nat.le_of_ble_eq_true rfl) ⟨by decide, by decide⟩ (dt_k3 ?_)
  rw [ew, g6]
  by_cases s1 : (wd.1 : Int) = 1
  · refine dt_tblI (off := 34) (tgt := 64) dX11_wordToAsk_30 (by first | assumption | exact hwf _ _ | exact dt_b32 _ | omega | exact ⟨by omega, by omega⟩ | decide | exact ⟨by simp (disch := omega) only [dt_up_s, dt_up_k, dt_up_n]; omega, by simp (disch := omega) only [dt_up_s, dt_up_k, dt_up_n]; omega⟩) (by omega) (by omega) (by rw [s1]; rfl) (by decide) ?_
    refine dt_new (ci := 5) (tags := [0, 0, 3, 0, 0]) dX11_wordToAsk_64 rfl pl_X11_290 pn_5.1 pn_5.2 rfl wNew_5 (by decide) (by decide) ?_
    refine dt_dupR dX11_wordToAsk_67 ?_
    refine dt_iloadn dX11_wordToAsk_68 rfl rfl ?_
    refine dt_iloadn dX11_wordToAsk_69 rfl rfl ?_
    refine dt_iload dX11_wordToAsk_70 rfl ?_
    refine dt_xI dX11_wordToAsk_72 pc_X11_292 (s_X5_init_5 (by first | assumption | exact hwf _ _ | exact dt_b32 _ | omega | exact ⟨by omega, by omega⟩ | decide | exact ⟨by simp (disch := omega) only [dt_up_s, dt_up_k, dt_up_n]; omega, by simp (disch := omega) only [dt_up_s, dt_up_k, dt_up_n]; omega⟩) (by first | assumption | exact hwf _ _ | exact dt_b32 _ | omega | exact ⟨by omega, by omega⟩ | decide | exact ⟨by simp (disch := omega) only [dt_up_s, dt_up_k, dt_up_n]; omega, by simp (disch := omega) only [dt_up_s, dt_up_k, dt_up_n]; omega⟩) (by first | assumption | exact hwf _ _ | exact dt_b32 _ | omega | exact ⟨by omega, by omega⟩ | decide | exact ⟨by simp (disch := omega) only [dt_up_s, dt_up_k, dt_up_n]; omega, by simp (disch := omega) only [dt_up_s, dt_up_k, dt_up_n]; omega⟩)) rfl rfl ⟨by decide, by decide⟩ (Nat.le_of_ble_eq_true rfl) ⟨by decide, by decide⟩ ?_
    intro vn5 shn5 σn5 hqn5
    obtain ⟨rfl, hsn5, hvn5, hTn5, hfn5⟩ := hqn5
    obtain rfl := hsn5.symm
    refine dt_aret dX11_wordToAsk_75 rfl (by decide) (by decide) ?_
    exact ⟨5, rfl, List.append_assoc _ _ _, (by omega), hvn5, hTn5, fun b hb => (hfn5 b hb).trans (dt_zr_n (by omega))⟩
  by_cases s2 : (wd.1 : Int) = 2
  · refine dt_tblI (off := 46) (tgt := 76) dX11_wordToAsk_30 (by first | assumption | exact hwf _ _ | exact dt_b32 _ | omega | exact ⟨by omega, by omega⟩ | decide | exact ⟨by simp (disch := omega) only [dt_up_s, dt_up_k, dt_up_n]; omega, by simp (disch := omega) only [dt_up_s, dt_up_k, dt_up_n]; omega⟩) (by omega) (by omega) (by rw [s2]; rfl) (by decide) ?_
    refine dt_new (ci := 0) (tags := [0, 0, 3, 0, 0]) dX11_wordToAsk_76 rfl pl_X11_294 pn_0.1 pn_0.2 rfl wNew_0 (by decide) (by decide) ?_
    refine dt_dupR dX11_wordToAsk_79 ?_
    refine dt_iloadn dX11_wordToAsk_80 rfl rfl ?_
    refine dt_iloadn dX11_wordToAsk_81 rfl rfl ?_
    refine dt_iload dX11_wordToAsk_82 rfl ?_
    refine dt_xI dX11_wordToAsk_84 pc_X11_296 (s_X0_init_0 (by first | assumption | exact hwf _ _ | exact dt_b32 _ | omega | exact ⟨by omega, by omega⟩ | decide | exact ⟨by simp (disch := omega) only [dt_up_s, dt_up_k, dt_up_n]; omega, by simp (disch := omega) only [dt_up_s, dt_up_k, dt_up_n]; omega⟩) (by first | assumption | exact hwf _ _ | exact dt_b32 _ | omega | exact ⟨by omega, by omega⟩ | decide | exact ⟨by simp (disch := omega) only [dt_up_s, dt_up_k, dt_up_n]; omega, by simp (disch := omega) only [dt_up_s, dt_up_k, dt_up_n]; omega⟩) (by first | assumption | exact hwf _ _ | exact dt_b32 _ | omega | exact ⟨by omega, by omega⟩ | decide | exact ⟨by simp (disch := omega) only [dt_up_s, dt_up_k, dt_up_n]; omega, by simp (disch := omega) only [dt_up_s, dt_up_k, dt_up_n]; omega⟩)) rfl rfl ⟨by decide, by decide⟩ (Nat.le_of_ble_eq_true rfl) ⟨by decide, by decide⟩ ?_
    intro vn0 shn0 σn0 hqn0
    obtain ⟨rfl, hsn0, hvn0, hTn0, hfn0⟩ := hqn0
    obtain rfl := hsn0.symm
    refine dt_aret dX11_wordToAsk_87 rfl (by decide) (by decide) ?_
    exact ⟨0, rfl, List.append_assoc _ _ _, (by omega), hvn0, hTn0, fun b hb => (hfn0 b hb).trans (dt_zr_n (by omega))⟩
  by_cases s3 : (wd.1 : Int) = 3
  · refine dt_tblI (off := 58) (tgt := 88) dX11_wordToAsk_30 (by first | assumption | exact hwf _ _ | exact dt_b32 _ | omega | exact ⟨by omega, by omega⟩ | decide | exact ⟨by simp (disch := omega) only [dt_up_s, dt_up_k, dt_up_n]; omega, by simp (disch := omega) only [dt_up_s, dt_up_k, dt_up_n]; omega⟩) (by omega) (by omega) (by rw [s3]; rfl) (by decide) ?_
    refine dt_new (ci := 2) (tags := [0, 0, 3, 0, 0]) dX11_wordToAsk_88 rfl pl_X11_297 pn_2.1 pn_2.2 rfl wNew_2 (by decide) (by decide) ?_
    refine dt_dupR dX11_wordToAsk_91 ?_
    refine dt_iloadn dX11_wordToAsk_92 rfl rfl ?_
    refine dt_iloadn dX11_wordToAsk_93 rfl rfl ?_
    refine dt_iload dX11_wordToAsk_94 rfl ?_
    refine dt_xI dX11_wordToAsk_96 pc_X11_299 (s_X2_init_2 (by first | assumption | exact hwf _ _ | exact dt_b32 _ | omega | exact ⟨by omega, by omega⟩ | decide | exact ⟨by simp (disch := omega) only [dt_up_s, dt_up_k, dt_up_n]; omega, by simp (disch := omega) only [dt_up_s, dt_up_k, dt_up_n]; omega⟩) (by first | assumption | exact hwf _ _ | exact dt_b32 _ | omega | exact ⟨by omega, by omega⟩ | decide | exact ⟨by simp (disch := omega) only [dt_up_s, dt_up_k, dt_up_n]; omega, by simp (disch := omega) only [dt_up_s, dt_up_k, dt_up_n]; omega⟩) (by first | assumption | exact hwf _ _ | exact dt_b32 _ | omega | exact ⟨by omega, by omega⟩ | decide | exact ⟨by simp (disch := omega) only [dt_up_s, dt_up_k, dt_up_n]; omega, by simp (disch := omega) only [dt_up_s, dt_up_k, dt_up_n]; omega⟩)) rfl rfl ⟨by decide, by decide⟩ (Nat.le_of_ble_eq_true rfl) ⟨by decide, by decide⟩ ?_
    intro vn2 shn2 σn2 hqn2
    obtain ⟨rfl, hsn2, hvn2, hTn2, hfn2⟩ := hqn2
    obtain rfl := hsn2.symm
    refine dt_aret dX11_wordToAsk_99 rfl (by decide) (by decide) ?_
    exact ⟨2, rfl, List.append_assoc _ _ _, (by omega), hvn2, hTn2, fun b hb => (hfn2 b hb).trans (dt_zr_n (by omega))⟩
  by_cases s4 : (wd.1 : Int) = 4
  · refine dt_tblI (off := 70) (tgt := 100) dX11_wordToAsk_30 (by first | assumption | exact hwf _ _ | exact dt_b32 _ | omega | exact ⟨by omega, by omega⟩ | decide | exact ⟨by simp (disch := omega) only [dt_up_s, dt_up_k, dt_up_n]; omega, by simp (disch := omega) only [dt_up_s, dt_up_k, dt_up_n]; omega⟩) (by omega) (by omega) (by rw [s4]; rfl) (by decide) ?_
    refine dt_new (ci := 1) (tags := [0, 0, 3, 0, 0]) dX11_wordToAsk_100 rfl pl_X11_300 pn_1.1 pn_1.2 rfl wNew_1 (by decide) (by decide) ?_
    refine dt_dupR dX11_wordToAsk_103 ?_
    refine dt_iloadn dX11_wordToAsk_104 rfl rfl ?_
    refine dt_iloadn dX11_wordToAsk_105 rfl rfl ?_
    refine dt_iload dX11_wordToAsk_106 rfl ?_
    refine dt_xI dX11_wordToAsk_108 pc_X11_302 (s_X1_init_1 (by first | assumption | exact hwf _ _ | exact dt_b32 _ | omega | exact ⟨by omega, by omega⟩ | decide | exact ⟨by simp (disch := omega) only [dt_up_s, dt_up_k, dt_up_n]; omega, by simp (disch := omega) only [dt_up_s, dt_up_k, dt_up_n]; omega⟩) (by first | assumption | exact hwf _ _ | exact dt_b32 _ | omega | exact ⟨by omega, by omega⟩ | decide | exact ⟨by simp (disch := omega) only [dt_up_s, dt_up_k, dt_up_n]; omega, by simp (disch := omega) only [dt_up_s, dt_up_k, dt_up_n]; omega⟩) (by first | assumption | exact hwf _ _ | exact dt_b32 _ | omega | exact ⟨by omega, by omega⟩ | decide | exact ⟨by simp (disch := omega) only [dt_up_s, dt_up_k, dt_up_n]; omega, by simp (disch := omega) only [dt_up_s, dt_up_k, dt_up_n]; omega⟩)) rfl rfl ⟨by decide, by decide⟩ (Nat.le_of_ble_eq_true rfl) ⟨by decide, by decide⟩ ?_
    intro vn1 shn1 σn1 hqn1
    obtain ⟨rfl, hsn1, hvn1, hTn1, hfn1⟩ := hqn1
    obtain rfl := hsn1.symm
    refine dt_aret dX11_wordToAsk_111 rfl (by decide) (by decide) ?_
    exact ⟨1, rfl, List.append_assoc _ _ _, (by omega), hvn1, hTn1, fun b hb => (hfn1 b hb).trans (dt_zr_n (by omega))⟩
  by_cases s5 : (wd.1 : Int) = 5
  · refine dt_tblI (off := 82) (tgt := 112) dX11_wordToAsk_30 (by first | assumption | exact hwf _ _ | exact dt_b32 _ | omega | exact ⟨by omega, by omega⟩ | decide | exact ⟨by simp (disch := omega) only [dt_up_s, dt_up_k, dt_up_n]; omega, by simp (disch := omega) only [dt_up_s, dt_up_k, dt_up_n]; omega⟩) (by omega) (by omega) (by rw [s5]; rfl) (by decide) ?_
    refine dt_new (ci := 3) (tags := [0, 0, 3, 0, 0]) dX11_wordToAsk_112 rfl pl_X11_303 pn_3.1 pn_3.2 rfl wNew_3 (by decide) (by decide) ?_
    refine dt_dupR dX11_wordToAsk_115 ?_
    refine dt_iloadn dX11_wordToAsk_116 rfl rfl ?_
    refine dt_iloadn dX11_wordToAsk_117 rfl rfl ?_
    refine dt_iload dX11_wordToAsk_118 rfl ?_
    refine dt_xI dX11_wordToAsk_120 pc_X11_305 (s_X3_init_3 (by first | assumption | exact hwf _ _ | exact dt_b32 _ | omega | exact ⟨by omega, by omega⟩ | decide | exact ⟨by simp (disch := omega) only [dt_up_s, dt_up_k, dt_up_n]; omega, by simp (disch := omega) only [dt_up_s, dt_up_k, dt_up_n]; omega⟩) (by first | assumption | exact hwf _ _ | exact dt_b32 _ | omega | exact ⟨by omega, by omega⟩ | decide | exact ⟨by simp (disch := omega) only [dt_up_s, dt_up_k, dt_up_n]; omega, by simp (disch := omega) only [dt_up_s, dt_up_k, dt_up_n]; omega⟩) (by first | assumption | exact hwf _ _ | exact dt_b32 _ | omega | exact ⟨by omega, by omega⟩ | decide | exact ⟨by simp (disch := omega) only [dt_up_s, dt_up_k, dt_up_n]; omega, by simp (disch := omega) only [dt_up_s, dt_up_k, dt_up_n]; omega⟩)) rfl rfl ⟨by decide, by decide⟩ (Nat.le_of_ble_eq_true rfl) ⟨by decide, by decide⟩ ?_
    intro vn3 shn3 σn3 hqn3
    obtain ⟨rfl, hsn3, hvn3, hTn3, hfn3⟩ := hqn3
    obtain rfl := hsn3.symm
    refine dt_aret dX11_wordToAsk_123 rfl (by decide) (by decide) ?_
    exact ⟨3, rfl, List.append_assoc _ _ _, (by omega), hvn3, hTn3, fun b hb => (hfn3 b hb).trans (dt_zr_n (by omega))⟩
  refine dt_tblO (tgt := 124) dX11_wordToAsk_30 (by first | assumption | exact hwf _ _ | exact dt_b32 _ | omega | exact ⟨by omega, by omega⟩ | decide | exact ⟨by simp (disch := omega) only [dt_up_s, dt_up_k, dt_up_n]; omega, by simp (disch := omega) only [dt_up_s, dt_up_k, dt_up_n]; omega⟩) (by omega) (by decide) ?_
  exfalso
  omega
theorem s_X11_as {ex : List dt_Shp} {σ : dt_Mem} {A : dS} {t w kd : Int} (hI : cInv ex σ A) (h_t : dt_in32 t) (h_w : dt_in32 w) (h_kd : dt_in32 kd) (hex : ex.length < 1000000) : dt_Sp mX11_as 6 2 21 [dt_R 0, dt_I t, dt_I w, dt_I kd] (dt_SH ++ ex) σ (fun v sh2 σ2 => ∃ e2, v = some (dt_I (oAs A t w kd).1) ∧ sh2 = dt_SH ++ (ex ++ e2) ∧ e2.length ≤ 2 ∧ cEnd (ex ++ e2) σ σ2 (oAs A t w kd).2) := by
  refine dt_Sp_of (by decide) (Nat.le_of_ble_eq_true rfl) ?_
  refine dt_wfV fun hwf => ?_
  have hc := hI.2.2.1.1
  have hok := hI.2.2.1.2.1
  have e5 := hc.t
  have e6 := hc.p
  have e7 := hc.1
  show dt_V _ _ _ 0 0 0 [some (dt_R 0), some (dt_I t), some (dt_I w), some (dt_I kd)] [] _ _
  refine dt_aloadn dX11_as_0 rfl rfl ?_
  refine dt_getR dX11_as_1 pg_X11_26_11 rfl rfl ?_
  refine dt_iloadn dX11_as_4 rfl rfl ?_
  refine dt_iloadn dX11_as_5 rfl rfl ?_
  refine dt_xV dX11_as_6 pc_X11_145 rfl (s_X6_hasWord dt_p7 (by first | assumption | exact hwf _ _ | exact dt_b32 _ | omega | exact ⟨by omega, by omega⟩ | decide | exact ⟨by simp (disch := omega) only [dt_up_s, dt_up_k, dt_up_n]; omega, by simp (disch := omega) only [dt_up_s, dt_up_k, dt_up_n]; omega⟩) (by first | assumption | exact hwf _ _ | exact dt_b32 _ | omega | exact ⟨by omega, by omega⟩ | decide | exact ⟨by simp (disch := omega) only [dt_up_s, dt_up_k, dt_up_n]; omega, by simp (disch := omega) only [dt_up_s, dt_up_k, dt_up_n]; omega⟩)) rfl rfl ⟨by decide, by decide⟩ rfl rfl (Nat.le_of_ble_eq_true rfl) ⟨by decide, by decide⟩ (dt_k3 ?_)
  refine dt_if_eq (tgt := 21) dX11_as_9 (by decide) (by first | assumption | exact hwf _ _ | exact dt_b32 _ | omega | exact ⟨by omega, by omega⟩ | decide | exact ⟨by simp (disch := omega) only [dt_up_s, dt_up_k, dt_up_n]; omega, by simp (disch := omega) only [dt_up_s, dt_up_k, dt_up_n]; omega⟩) (fun c1 => ?_) (fun c1 => ?_)
  · skip
    try simp only [dt_b0, dt_b1, Decidable.not_not, Classical.not_not] at c1
    have hat := hc.no c1
    refine dt_ldc dX11_as_21 pk_X11_74 ?_
    refine dt_iret dX11_as_23 rfl (by decide) (by decide) ?_
    first
    | (have e : oAs A t w kd = (-1000001, A) := by
        unfold oAs
        simp only [hat]
       rw [e]
       exact ⟨[], rfl, by rw [List.append_nil], by decide, by rw [List.append_nil]; exact ⟨hI, fun b _ _ => rfl⟩⟩)
    | (have e : oAs A t w kd = (-1000001, A) := by
        unfold oAs
        simp only [hat]
        rw [if_pos (by omega)]
       rw [e]
       exact ⟨[], rfl, by rw [List.append_nil], by decide, by rw [List.append_nil]; exact ⟨hI, fun b _ _ => rfl⟩⟩)
  · skip
    try simp only [dt_b0, dt_b1, Decidable.not_not, Classical.not_not] at c1
    obtain ⟨t, w, wd, rfl, rfl, hw⟩ := hc.ofW c1
    obtain ⟨g1, g2, g3, g4, g5, g6, g7, g8⟩ := hc.word hw
    have hat := xAt_of hw
    have ew : ((t : Int) * 8 + (w : Int)).toNat = t * 8 + w := by omega
    refine dt_iloadn dX11_as_12 rfl rfl ?_
    refine dt_iconst dX11_as_13 ?_
    refine dt_iconst dX11_as_14 ?_
    refine dt_xS dX11_as_15 pc_X11_70 (s_X11_isWithin (by first | assumption | exact hwf _ _ | exact dt_b32 _ | omega | exact ⟨by omega, by omega⟩ | decide | exact ⟨by simp (disch := omega) only [dt_up_s, dt_up_k, dt_up_n]; omega, by simp (disch := omega) only [dt_up_s, dt_up_k, dt_up_n]; omega⟩) (by first | assumption | exact hwf _ _ | exact dt_b32 _ | omega | exact ⟨by omega, by omega⟩ | decide | exact ⟨by simp (disch := omega) only [dt_up_s, dt_up_k, dt_up_n]; omega, by simp (disch := omega) only [dt_up_s, dt_up_k, dt_up_n]; omega⟩) (by first | assumption | exact hwf _ _ | exact dt_b32 _ | omega | exact ⟨by omega, by omega⟩ | decide | exact ⟨by simp (disch := omega) only [dt_up_s, dt_up_k, dt_up_n]; omega, by simp (disch := omega) only [dt_up_s, dt_up_k, dt_up_n]; omega⟩)) rfl rfl ⟨by decide, by decide⟩ (Nat.le_of_ble_eq_true rfl) ⟨by decide, by decide⟩ (dt_k3 ?_)
    refine dt_if_ne (tgt := 24) dX11_as_18 (by decide) (by first | assumption | exact hwf _ _ | exact dt_b32 _ | omega | exact ⟨by omega, by omega⟩ | decide | exact ⟨by simp (disch := omega) only [dt_up_s, dt_up_k, dt_up_n]; omega, by simp (disch := omega) only [dt_up_s, dt_up_k, dt_up_n]; omega⟩) (fun c2 => ?_) (fun c2 => ?_)
    · skip
      try simp only [dt_b0, dt_b1, Decidable.not_not, Classical.not_not] at c2
      have k3 := (hI.2.2.1.2.1.wd hw).2.2.2
      refine dt_aloadn dX11_as_24 rfl rfl ?_
      refine dt_iloadn dX11_as_25 rfl rfl ?_
      refine dt_iloadn dX11_as_26 rfl rfl ?_
      refine dt_xV dX11_as_27 pc_X11_238 rfl (s_X11_wordToAsk hI.2.2.1 hw) rfl rfl ⟨by decide, by decide⟩ rfl rfl (Nat.le_of_ble_eq_true rfl) ⟨by decide, by decide⟩ ?_
      intro vw shw σw hqw
      obtain ⟨ci, rfl, hsw, hk, ⟨hv, hw1, hu⟩, hT, hf⟩ := hqw
      obtain rfl := hsw.symm
      have hJ : cInv (ex ++ [.inl (ci, [0, 0, (dt_SH ++ ex).length + 1 + 4, 0, 0]), .inr (0, 16)]) σw A := (hI.low hf).ex
      have hL : (dt_SH ++ ex).length = 55 + ex.length := by rw [List.length_append, dt_SH_len]
      have hO : wO (dt_SH ++ (ex ++ [.inl (ci, [0, 0, (dt_SH ++ ex).length + 1 + 4, 0, 0]), .inr (0, 16)])) (dt_SH ++ ex).length ci := ⟨by rw [← List.append_assoc]; exact dt_ap2, by rw [← List.append_assoc]; exact dt_ap3⟩
      refine dt_wfV fun hwf => ?_
      refine dt_iloadn dX11_as_30 rfl rfl ?_
      rcases hk with ⟨hk, rfl⟩ | ⟨hk, rfl⟩ | ⟨hk, rfl⟩ | ⟨hk, rfl⟩ | ⟨hk, rfl⟩
      · skip
        refine dt_xS dX11_as_31 pc_X11_242 (s_X11_isOfKind_5 hO.1 (by omega)) rfl rfl ⟨by decide, by decide⟩ (Nat.le_of_ble_eq_true rfl) ⟨by decide, by decide⟩ (dt_k3 ?_)
        refine dt_if_eq (tgt := 45) dX11_as_34 (by decide) (by first | assumption | exact hwf _ _ | exact dt_b32 _ | omega | exact ⟨by omega, by omega⟩ | decide | exact ⟨by simp (disch := omega) only [dt_up_s, dt_up_k, dt_up_n]; omega, by simp (disch := omega) only [dt_up_s, dt_up_k, dt_up_n]; omega⟩) (fun c3 => ?_) (fun c3 => ?_)
        · skip
          try simp only [dt_b0, dt_b1, Decidable.not_not, Classical.not_not] at c3
          refine dt_aloadn dX11_as_45 rfl rfl ?_
          refine dt_iconst dX11_as_46 ?_
          refine dt_xV dX11_as_47 pc_X11_75 rfl (s_X11_found (by first | assumption | exact hwf _ _ | exact dt_b32 _ | omega | exact ⟨by omega, by omega⟩ | decide | exact ⟨by simp (disch := omega) only [dt_up_s, dt_up_k, dt_up_n]; omega, by simp (disch := omega) only [dt_up_s, dt_up_k, dt_up_n]; omega⟩)) rfl rfl ⟨by decide, by decide⟩ rfl rfl (Nat.le_of_ble_eq_true rfl) ⟨by decide, by decide⟩ (dt_k3 ?_)
          refine dt_iret dX11_as_50 rfl (by decide) (by decide) ?_
          first
          | (have e : oAs A t w kd = ((w : Int), sSt A 0) := by
              unfold oAs
              simp only [hat]
              rw [if_neg (by omega), if_pos (by rw [hk]; assumption)]
             rw [e]
             exact ⟨_, rfl, rfl, Nat.le_refl 2, hJ.st 0, fun b h1 h2 => (dt_up_o (by omega)).trans (hf b (by omega))⟩)
          | (have e : oAs A t w kd = (-1000013, sSt A 3) := by
              unfold oAs
              simp only [hat]
              rw [if_neg (by omega), if_neg (by rw [hk]; assumption)]
             rw [e]
             exact ⟨_, rfl, rfl, Nat.le_refl 2, hJ.st 3, fun b h1 h2 => (dt_up_o (by omega)).trans (hf b (by omega))⟩)
        · skip
          try simp only [dt_b0, dt_b1, Decidable.not_not, Classical.not_not] at c3
          refine dt_aloadn dX11_as_37 rfl rfl ?_
          refine dt_iloadn dX11_as_38 rfl rfl ?_
          refine dt_xV dX11_as_39 pc_X11_83 rfl s_X11_well rfl rfl ⟨by decide, by decide⟩ rfl rfl (Nat.le_of_ble_eq_true rfl) ⟨by decide, by decide⟩ (dt_k3 ?_)
          refine dt_goto (tgt := 50) dX11_as_42 (by decide) ?_
          refine dt_iret dX11_as_50 rfl (by decide) (by decide) ?_
          first
          | (have e : oAs A t w kd = ((w : Int), sSt A 0) := by
              unfold oAs
              simp only [hat]
              rw [if_neg (by omega), if_pos (by rw [hk]; assumption)]
             rw [e]
             exact ⟨_, rfl, rfl, Nat.le_refl 2, hJ.st 0, fun b h1 h2 => (dt_up_o (by omega)).trans (hf b (by omega))⟩)
          | (have e : oAs A t w kd = (-1000013, sSt A 3) := by
              unfold oAs
              simp only [hat]
              rw [if_neg (by omega), if_neg (by rw [hk]; assumption)]
             rw [e]
             exact ⟨_, rfl, rfl, Nat.le_refl 2, hJ.st 3, fun b h1 h2 => (dt_up_o (by omega)).trans (hf b (by omega))⟩)
      · skip
        refine dt_xS dX11_as_31 pc_X11_242 (s_X11_isOfKind_0 hO.1 (by omega)) rfl rfl ⟨by decide, by decide⟩ (Nat.le_of_ble_eq_true rfl) ⟨by decide, by decide⟩ (dt_k3 ?_)
        refine dt_if_eq (tgt := 45) dX11_as_34 (by decide) (by first | assumption | exact hwf _ _ | exact dt_b32 _ | omega | exact ⟨by omega, by omega⟩ | decide | exact ⟨by simp (disch := omega) only [dt_up_s, dt_up_k, dt_up_n]; omega, by simp (disch := omega) only [dt_up_s, dt_up_k, dt_up_n]; omega⟩) (fun c4 => ?_) (fun c4 => ?_)
        · skip
          try simp only [dt_b0, dt_b1, Decidable.not_not, Classical.not_not] at c4
          refine dt_aloadn dX11_as_45 rfl rfl ?_
          refine dt_iconst dX11_as_46 ?_
          refine dt_xV dX11_as_47 pc_X11_75 rfl (s_X11_found (by first | assumption | exact hwf _ _ | exact dt_b32 _ | omega | exact ⟨by omega, by omega⟩ | decide | exact ⟨by simp (disch := omega) only [dt_up_s, dt_up_k, dt_up_n]; omega, by simp (disch := omega) only [dt_up_s, dt_up_k, dt_up_n]; omega⟩)) rfl rfl ⟨by decide, by decide⟩ rfl rfl (Nat.le_of_ble_eq_true rfl) ⟨by decide, by decide⟩ (dt_k3 ?_)
          refine dt_iret dX11_as_50 rfl (by decide) (by decide) ?_
          first
          | (have e : oAs A t w kd = ((w : Int), sSt A 0) := by
              unfold oAs
              simp only [hat]
              rw [if_neg (by omega), if_pos (by rw [hk]; assumption)]
             rw [e]
             exact ⟨_, rfl, rfl, Nat.le_refl 2, hJ.st 0, fun b h1 h2 => (dt_up_o (by omega)).trans (hf b (by omega))⟩)
          | (have e : oAs A t w kd = (-1000013, sSt A 3) := by
              unfold oAs
              simp only [hat]
              rw [if_neg (by omega), if_neg (by rw [hk]; assumption)]
             rw [e]
             exact ⟨_, rfl, rfl, Nat.le_refl 2, hJ.st 3, fun b h1 h2 => (dt_up_o (by omega)).trans (hf b (by omega))⟩)
        · skip
          try simp only [dt_b0, dt_b1, Decidable.not_not, Classical.not_not] at c4
          refine dt_aloadn dX11_as_37 rfl rfl ?_
          refine dt_iloadn dX11_as_38 rfl rfl ?_
          refine dt_xV dX11_as_39 pc_X11_83 rfl s_X11_well rfl rfl ⟨by decide, by decide⟩ rfl rfl (Nat.le_of_ble_eq_true rfl) ⟨by decide, by decide⟩ (dt_k3 ?_)
          refine dt_goto (tgt := 50) dX11_as_42 (by decide) ?_
          refine dt_iret dX11_as_50 rfl (by decide) (by decide) ?_
          first
          | (have e : oAs A t w kd = ((w : Int), sSt A 0) := by
              unfold oAs
              simp only [hat]
              rw [if_neg (by omega), if_pos (by rw [hk]; assumption)]
             rw [e]
             exact ⟨_, rfl, rfl, Nat.le_refl 2, hJ.st 0, fun b h1 h2 => (dt_up_o (by omega)).trans (hf b (by omega))⟩)
          | (have e : oAs A t w kd = (-1000013, sSt A 3) := by
              unfold oAs
              simp only [hat]
              rw [if_neg (by omega), if_neg (by rw [hk]; assumption)]
             rw [e]
             exact ⟨_, rfl, rfl, Nat.le_refl 2, hJ.st 3, fun b h1 h2 => (dt_up_o (by omega)).trans (hf b (by omega))⟩)
      · skip
        refine dt_xS dX11_as_31 pc_X11_242 (s_X11_isOfKind_2 hO.1 (by omega)) rfl rfl ⟨by decide, by decide⟩ (Nat.le_of_ble_eq_true rfl) ⟨by decide, by decide⟩ (dt_k3 ?_)
        refine dt_if_eq (tgt := 45) dX11_as_34 (by decide) (by first | assumption | exact hwf _ _ | exact dt_b32 _ | omega | exact ⟨by omega, by omega⟩ | decide | exact ⟨by simp (disch := omega) only [dt_up_s, dt_up_k, dt_up_n]; omega, by simp (disch := omega) only [dt_up_s, dt_up_k, dt_up_n]; omega⟩) (fun c5 => ?_) (fun c5 => ?_)
        · skip
          try simp only [dt_b0, dt_b1, Decidable.not_not, Classical.not_not] at c5
          refine dt_aloadn dX11_as_45 rfl rfl ?_
          refine dt_iconst dX11_as_46 ?_
          refine dt_xV dX11_as_47 pc_X11_75 rfl (s_X11_found (by first | assumption | exact hwf _ _ | exact dt_b32 _ | omega | exact ⟨by omega, by omega⟩ | decide | exact ⟨by simp (disch := omega) only [dt_up_s, dt_up_k, dt_up_n]; omega, by simp (disch := omega) only [dt_up_s, dt_up_k, dt_up_n]; omega⟩)) rfl rfl ⟨by decide, by decide⟩ rfl rfl (Nat.le_of_ble_eq_true rfl) ⟨by decide, by decide⟩ (dt_k3 ?_)
          refine dt_iret dX11_as_50 rfl (by decide) (by decide) ?_
          first
          | (have e : oAs A t w kd = ((w : Int), sSt A 0) := by
              unfold oAs
              simp only [hat]
              rw [if_neg (by omega), if_pos (by rw [hk]; assumption)]
             rw [e]
             exact ⟨_, rfl, rfl, Nat.le_refl 2, hJ.st 0, fun b h1 h2 => (dt_up_o (by omega)).trans (hf b (by omega))⟩)
          | (have e : oAs A t w kd = (-1000013, sSt A 3) := by
              unfold oAs
              simp only [hat]
              rw [if_neg (by omega), if_neg (by rw [hk]; assumption)]
             rw [e]
             exact ⟨_, rfl, rfl, Nat.le_refl 2, hJ.st 3, fun b h1 h2 => (dt_up_o (by omega)).trans (hf b (by omega))⟩)
        · skip
          try simp only [dt_b0, dt_b1, Decidable.not_not, Classical.not_not] at c5
          refine dt_aloadn dX11_as_37 rfl rfl ?_
          refine dt_iloadn dX11_as_38 rfl rfl ?_
          refine dt_xV dX11_as_39 pc_X11_83 rfl s_X11_well rfl rfl ⟨by decide, by decide⟩ rfl rfl (Nat.le_of_ble_eq_true rfl) ⟨by decide, by decide⟩ (dt_k3 ?_)
          refine dt_goto (tgt := 50) dX11_as_42 (by decide) ?_
          refine dt_iret dX11_as_50 rfl (by decide) (by decide) ?_
          first
          | (have e : oAs A t w kd = ((w : Int), sSt A 0) := by
              unfold oAs
              simp only [hat]
              rw [if_neg (by omega), if_pos (by rw [hk]; assumption)]
             rw [e]
             exact ⟨_, rfl, rfl, Nat.le_refl 2, hJ.st 0, fun b h1 h2 => (dt_up_o (by omega)).trans (hf b (by omega))⟩)
          | (have e : oAs A t w kd = (-1000013, sSt A 3) := by
              unfold oAs
              simp only [hat]
              rw [if_neg (by omega), if_neg (by rw [hk]; assumption)]
             rw [e]
             exact ⟨_, rfl, rfl, Nat.le_refl 2, hJ.st 3, fun b h1 h2 => (dt_up_o (by omega)).trans (hf b (by omega))⟩)
      · skip
        refine dt_xS dX11_as_31 pc_X11_242 (s_X11_isOfKind_1 hO.1 (by omega)) rfl rfl ⟨by decide, by decide⟩ (Nat.le_of_ble_eq_true rfl) ⟨by decide, by decide⟩ (dt_k3 ?_)
        refine dt_if_eq (tgt := 45) dX11_as_34 (by decide) (by first | assumption | exact hwf _ _ | exact dt_b32 _ | omega | exact ⟨by omega, by omega⟩ | decide | exact ⟨by simp (disch := omega) only [dt_up_s, dt_up_k, dt_up_n]; omega, by simp (disch := omega) only [dt_up_s, dt_up_k, dt_up_n]; omega⟩) (fun c6 => ?_) (fun c6 => ?_)
        · skip
          try simp only [dt_b0, dt_b1, Decidable.not_not, Classical.not_not] at c6
          refine dt_aloadn dX11_as_45 rfl rfl ?_
          refine dt_iconst dX11_as_46 ?_
          refine dt_xV dX11_as_47 pc_X11_75 rfl (s_X11_found (by first | assumption | exact hwf _ _ | exact dt_b32 _ | omega | exact ⟨by omega, by omega⟩ | decide | exact ⟨by simp (disch := omega) only [dt_up_s, dt_up_k, dt_up_n]; omega, by simp (disch := omega) only [dt_up_s, dt_up_k, dt_up_n]; omega⟩)) rfl rfl ⟨by decide, by decide⟩ rfl rfl (Nat.le_of_ble_eq_true rfl) ⟨by decide, by decide⟩ (dt_k3 ?_)
          refine dt_iret dX11_as_50 rfl (by decide) (by decide) ?_
          first
          | (have e : oAs A t w kd = ((w : Int), sSt A 0) := by
              unfold oAs
              simp only [hat]
              rw [if_neg (by omega), if_pos (by rw [hk]; assumption)]
             rw [e]
             exact ⟨_, rfl, rfl, Nat.le_refl 2, hJ.st 0, fun b h1 h2 => (dt_up_o (by omega)).trans (hf b (by omega))⟩)
          | (have e : oAs A t w kd = (-1000013, sSt A 3) := by
              unfold oAs
              simp only [hat]
              rw [if_neg (by omega), if_neg (by rw [hk]; assumption)]
             rw [e]
             exact ⟨_, rfl, rfl, Nat.le_refl 2, hJ.st 3, fun b h1 h2 => (dt_up_o (by omega)).trans (hf b (by omega))⟩)
        · skip
          try simp only [dt_b0, dt_b1, Decidable.not_not, Classical.not_not] at c6
          refine dt_aloadn dX11_as_37 rfl rfl ?_
          refine dt_iloadn dX11_as_38 rfl rfl ?_
          refine dt_xV dX11_as_39 pc_X11_83 rfl s_X11_well rfl rfl ⟨by decide, by decide⟩ rfl rfl (Nat.le_of_ble_eq_true rfl) ⟨by decide, by decide⟩ (dt_k3 ?_)
          refine dt_goto (tgt := 50) dX11_as_42 (by decide) ?_
          refine dt_iret dX11_as_50 rfl (by decide) (by decide) ?_
          first
          | (have e : oAs A t w kd = ((w : Int), sSt A 0) := by
              unfold oAs
              simp only [hat]
              rw [if_neg (by omega), if_pos (by rw [hk]; assumption)]
             rw [e]
             exact ⟨_, rfl, rfl, Nat.le_refl 2, hJ.st 0, fun b h1 h2 => (dt_up_o (by omega)).trans (hf b (by omega))⟩)
          | (have e : oAs A t w kd = (-1000013, sSt A 3) := by
              unfold oAs
              simp only [hat]
              rw [if_neg (by omega), if_neg (by rw [hk]; assumption)]
             rw [e]
             exact ⟨_, rfl, rfl, Nat.le_refl 2, hJ.st 3, fun b h1 h2 => (dt_up_o (by omega)).trans (hf b (by omega))⟩)
      · skip
        refine dt_xS dX11_as_31 pc_X11_242 (s_X11_isOfKind_3 hO.1 (by omega)) rfl rfl ⟨by decide, by decide⟩ (Nat.le_of_ble_eq_true rfl) ⟨by decide, by decide⟩ (dt_k3 ?_)
        refine dt_if_eq (tgt := 45) dX11_as_34 (by decide) (by first | assumption | exact hwf _ _ | exact dt_b32 _ | omega | exact ⟨by omega, by omega⟩ | decide | exact ⟨by simp (disch := omega) only [dt_up_s, dt_up_k, dt_up_n]; omega, by simp (disch := omega) only [dt_up_s, dt_up_k, dt_up_n]; omega⟩) (fun c7 => ?_) (fun c7 => ?_)
        · skip
          try simp only [dt_b0, dt_b1, Decidable.not_not, Classical.not_not] at c7
          refine dt_aloadn dX11_as_45 rfl rfl ?_
          refine dt_iconst dX11_as_46 ?_
          refine dt_xV dX11_as_47 pc_X11_75 rfl (s_X11_found (by first | assumption | exact hwf _ _ | exact dt_b32 _ | omega | exact ⟨by omega, by omega⟩ | decide | exact ⟨by simp (disch := omega) only [dt_up_s, dt_up_k, dt_up_n]; omega, by simp (disch := omega) only [dt_up_s, dt_up_k, dt_up_n]; omega⟩)) rfl rfl ⟨by decide, by decide⟩ rfl rfl (Nat.le_of_ble_eq_true rfl) ⟨by decide, by decide⟩ (dt_k3 ?_)
          refine dt_iret dX11_as_50 rfl (by decide) (by decide) ?_
          first
          | (have e : oAs A t w kd = ((w : Int), sSt A 0) := by
              unfold oAs
              simp only [hat]
              rw [if_neg (by omega), if_pos (by rw [hk]; assumption)]
             rw [e]
             exact ⟨_, rfl, rfl, Nat.le_refl 2, hJ.st 0, fun b h1 h2 => (dt_up_o (by omega)).trans (hf b (by omega))⟩)
          | (have e : oAs A t w kd = (-1000013, sSt A 3) := by
              unfold oAs
              simp only [hat]
              rw [if_neg (by omega), if_neg (by rw [hk]; assumption)]
             rw [e]
             exact ⟨_, rfl, rfl, Nat.le_refl 2, hJ.st 3, fun b h1 h2 => (dt_up_o (by omega)).trans (hf b (by omega))⟩)
        · skip
          try simp only [dt_b0, dt_b1, Decidable.not_not, Classical.not_not] at c7
          refine dt_aloadn dX11_as_37 rfl rfl ?_
          refine dt_iloadn dX11_as_38 rfl rfl ?_
          refine dt_xV dX11_as_39 pc_X11_83 rfl s_X11_well rfl rfl ⟨by decide, by decide⟩ rfl rfl (Nat.le_of_ble_eq_true rfl) ⟨by decide, by decide⟩ (dt_k3 ?_)
          refine dt_goto (tgt := 50) dX11_as_42 (by decide) ?_
          refine dt_iret dX11_as_50 rfl (by decide) (by decide) ?_
          first
          | (have e : oAs A t w kd = ((w : Int), sSt A 0) := by
              unfold oAs
              simp only [hat]
              rw [if_neg (by omega), if_pos (by rw [hk]; assumption)]
             rw [e]
             exact ⟨_, rfl, rfl, Nat.le_refl 2, hJ.st 0, fun b h1 h2 => (dt_up_o (by omega)).trans (hf b (by omega))⟩)
          | (have e : oAs A t w kd = (-1000013, sSt A 3) := by
              unfold oAs
              simp only [hat]
              rw [if_neg (by omega), if_neg (by rw [hk]; assumption)]
             rw [e]
             exact ⟨_, rfl, rfl, Nat.le_refl 2, hJ.st 3, fun b h1 h2 => (dt_up_o (by omega)).trans (hf b (by omega))⟩)
    · skip
      try simp only [dt_b0, dt_b1, Decidable.not_not, Classical.not_not] at c2
      refine dt_ldc dX11_as_21 pk_X11_74 ?_
      refine dt_iret dX11_as_23 rfl (by decide) (by decide) ?_
      first
      | (have e : oAs A t w kd = (-1000001, A) := by
          unfold oAs
          simp only [hat]
         rw [e]
         exact ⟨[], rfl, by rw [List.append_nil], by decide, by rw [List.append_nil]; exact ⟨hI, fun b _ _ => rfl⟩⟩)
      | (have e : oAs A t w kd = (-1000001, A) := by
          unfold oAs
          simp only [hat]
          rw [if_pos (by omega)]
         rw [e]
         exact ⟨[], rfl, by rw [List.append_nil], by decide, by rw [List.append_nil]; exact ⟨hI, fun b _ _ => rfl⟩⟩)
theorem s_X11_ask {ex : List dt_Shp} {σ : dt_Mem} {A : dS} {t w what : Int} (hI : cInv ex σ A) (h_t : dt_in32 t) (h_w : dt_in32 w) (h_what : dt_in32 what) (hex : ex.length < 1000000) : dt_Sp mX11_ask 7 2 21 [dt_R 0, dt_I t, dt_I w, dt_I what] (dt_SH ++ ex) σ (fun v sh2 σ2 => ∃ e2, v = some (dt_I (oAsk A t w what).1) ∧ sh2 = dt_SH ++ (ex ++ e2) ∧ e2.length ≤ 2 ∧ cEnd (ex ++ e2) σ σ2 (oAsk A t w what).2) := by
  refine dt_Sp_of (by decide) (Nat.le_of_ble_eq_true rfl) ?_
  refine dt_wfV fun hwf => ?_
  have hc := hI.2.2.1.1
  have hok := hI.2.2.1.2.1
  have e5 := hc.t
  have e6 := hc.p
  have e7 := hc.1
  show dt_V _ _ _ 0 0 0 [some (dt_R 0), some (dt_I t), some (dt_I w), some (dt_I what), none] [] _ _
  refine dt_aloadn dX11_ask_0 rfl rfl ?_
  refine dt_getR dX11_ask_1 pg_X11_26_11 rfl rfl ?_
  refine dt_iloadn dX11_ask_4 rfl rfl ?_
  refine dt_iloadn dX11_ask_5 rfl rfl ?_
  refine dt_xV dX11_ask_6 pc_X11_145 rfl (s_X6_hasWord dt_p7 (by first | assumption | exact hwf _ _ | exact dt_b32 _ | omega | exact ⟨by omega, by omega⟩ | decide | exact ⟨by simp (disch := omega) only [dt_up_s, dt_up_k, dt_up_n]; omega, by simp (disch := omega) only [dt_up_s, dt_up_k, dt_up_n]; omega⟩) (by first | assumption | exact hwf _ _ | exact dt_b32 _ | omega | exact ⟨by omega, by omega⟩ | decide | exact ⟨by simp (disch := omega) only [dt_up_s, dt_up_k, dt_up_n]; omega, by simp (disch := omega) only [dt_up_s, dt_up_k, dt_up_n]; omega⟩)) rfl rfl ⟨by decide, by decide⟩ rfl rfl (Nat.le_of_ble_eq_true rfl) ⟨by decide, by decide⟩ (dt_k3 ?_)
  refine dt_if_eq (tgt := 21) dX11_ask_9 (by decide) (by first | assumption | exact hwf _ _ | exact dt_b32 _ | omega | exact ⟨by omega, by omega⟩ | decide | exact ⟨by simp (disch := omega) only [dt_up_s, dt_up_k, dt_up_n]; omega, by simp (disch := omega) only [dt_up_s, dt_up_k, dt_up_n]; omega⟩) (fun c1 => ?_) (fun c1 => ?_)
  · skip
    try simp only [dt_b0, dt_b1, Decidable.not_not, Classical.not_not] at c1
    have hat := hc.no c1
    refine dt_ldc dX11_ask_21 pk_X11_74 ?_
    refine dt_iret dX11_ask_23 rfl (by decide) (by decide) ?_
    first
    | (have e : oAsk A t w what = (-1000001, A) := by
        unfold oAsk
        simp only [hat]
       rw [e]
       exact ⟨[], rfl, by rw [List.append_nil], by decide, by rw [List.append_nil]; exact ⟨hI, fun b _ _ => rfl⟩⟩)
    | (have e : oAsk A t w what = (-1000001, A) := by
        unfold oAsk
        simp only [hat]
        rw [if_pos (by omega)]
       rw [e]
       exact ⟨[], rfl, by rw [List.append_nil], by decide, by rw [List.append_nil]; exact ⟨hI, fun b _ _ => rfl⟩⟩)
  · skip
    try simp only [dt_b0, dt_b1, Decidable.not_not, Classical.not_not] at c1
    obtain ⟨t, w, wd, rfl, rfl, hw⟩ := hc.ofW c1
    obtain ⟨g1, g2, g3, g4, g5, g6, g7, g8⟩ := hc.word hw
    have hat := xAt_of hw
    have ew : ((t : Int) * 8 + (w : Int)).toNat = t * 8 + w := by omega
    refine dt_iloadn dX11_ask_12 rfl rfl ?_
    refine dt_iconst dX11_ask_13 ?_
    refine dt_iconst dX11_ask_14 ?_
    refine dt_xS dX11_ask_15 pc_X11_70 (s_X11_isWithin (by first | assumption | exact hwf _ _ | exact dt_b32 _ | omega | exact ⟨by omega, by omega⟩ | decide | exact ⟨by simp (disch := omega) only [dt_up_s, dt_up_k, dt_up_n]; omega, by simp (disch := omega) only [dt_up_s, dt_up_k, dt_up_n]; omega⟩) (by first | assumption | exact hwf _ _ | exact dt_b32 _ | omega | exact ⟨by omega, by omega⟩ | decide | exact ⟨by simp (disch := omega) only [dt_up_s, dt_up_k, dt_up_n]; omega, by simp (disch := omega) only [dt_up_s, dt_up_k, dt_up_n]; omega⟩) (by first | assumption | exact hwf _ _ | exact dt_b32 _ | omega | exact ⟨by omega, by omega⟩ | decide | exact ⟨by simp (disch := omega) only [dt_up_s, dt_up_k, dt_up_n]; omega, by simp (disch := omega) only [dt_up_s, dt_up_k, dt_up_n]; omega⟩)) rfl rfl ⟨by decide, by decide⟩ (Nat.le_of_ble_eq_true rfl) ⟨by decide, by decide⟩ (dt_k3 ?_)
    refine dt_if_ne (tgt := 24) dX11_ask_18 (by decide) (by first | assumption | exact hwf _ _ | exact dt_b32 _ | omega | exact ⟨by omega, by omega⟩ | decide | exact ⟨by simp (disch := omega) only [dt_up_s, dt_up_k, dt_up_n]; omega, by simp (disch := omega) only [dt_up_s, dt_up_k, dt_up_n]; omega⟩) (fun c2 => ?_) (fun c2 => ?_)
    · skip
      try simp only [dt_b0, dt_b1, Decidable.not_not, Classical.not_not] at c2
      have k3 := (hI.2.2.1.2.1.wd hw).2.2.2
      refine dt_aloadn dX11_ask_24 rfl rfl ?_
      refine dt_iloadn dX11_ask_25 rfl rfl ?_
      refine dt_iloadn dX11_ask_26 rfl rfl ?_
      refine dt_xV dX11_ask_27 pc_X11_238 rfl (s_X11_wordToAsk hI.2.2.1 hw) rfl rfl ⟨by decide, by decide⟩ rfl rfl (Nat.le_of_ble_eq_true rfl) ⟨by decide, by decide⟩ ?_
      intro vw shw σw hqw
      obtain ⟨ci, rfl, hsw, hk, ⟨hv, hw1, hu⟩, hT, hf⟩ := hqw
      obtain rfl := hsw.symm
      have hJ : cInv (ex ++ [.inl (ci, [0, 0, (dt_SH ++ ex).length + 1 + 4, 0, 0]), .inr (0, 16)]) σw A := (hI.low hf).ex
      have hL : (dt_SH ++ ex).length = 55 + ex.length := by rw [List.length_append, dt_SH_len]
      have hO : wO (dt_SH ++ (ex ++ [.inl (ci, [0, 0, (dt_SH ++ ex).length + 1 + 4, 0, 0]), .inr (0, 16)])) (dt_SH ++ ex).length ci := ⟨by rw [← List.append_assoc]; exact dt_ap2, by rw [← List.append_assoc]; exact dt_ap3⟩
      refine dt_wfV fun hwf => ?_
      refine dt_astore dX11_ask_30 (by decide) rfl ?_
      dsimp only [List.set]
      refine dt_aloadn dX11_ask_32 rfl rfl ?_
      refine dt_aload dX11_ask_33 rfl ?_
      refine dt_putD dX11_ask_35 pw_X11_55_11 rfl rfl ⟨by omega, by omega⟩ ?_
      obtain ⟨σb, eb⟩ : ∃ z, z = dt_up σw 0 8 ((dt_SH ++ ex).length : Int) := ⟨_, rfl⟩
      rw [← eb]
      have e8 : σb 0 8 = ((dt_SH ++ ex).length : Int) := by rw [eb, dt_up_s]
      have fb : ∀ b k, b < 55 → (b ≠ 0 ∨ k ≠ 8) → σb b k = σw b k := fun b k _ h => by rw [eb]; exact dt_up_ne h
      have hb : σb (dt_SH ++ ex).length = σw (dt_SH ++ ex).length := by rw [eb, dt_up_o (by omega)]
      have hTb : wT σb (dt_SH ++ ex).length [] := ⟨by rw [hb]; exact hT.1, fun i x hx => by cases i <;> exact absurd hx (by simp)⟩
      clear eb
      rcases hk with ⟨hk, rfl⟩ | ⟨hk, rfl⟩ | ⟨hk, rfl⟩ | ⟨hk, rfl⟩ | ⟨hk, rfl⟩
      · skip
        refine dt_iloadn dX11_ask_38 rfl rfl ?_
        refine dt_if_ne (tgt := 50) dX11_ask_39 (by decide) (by first | assumption | exact hwf _ _ | exact dt_b32 _ | omega | exact ⟨by omega, by omega⟩ | decide | exact ⟨by simp (disch := omega) only [dt_up_s, dt_up_k, dt_up_n]; omega, by simp (disch := omega) only [dt_up_s, dt_up_k, dt_up_n]; omega⟩) (fun c3 => ?_) (fun c3 => ?_)
        · skip
          refine dt_aload dX11_ask_50 rfl ?_
          refine dt_xO dX11_ask_52 hO.1 rfl pv_X11_251_5 (s_X5_mark_5 hO hTb (by decide)) rfl rfl ⟨by decide, by decide⟩ (Nat.le_of_ble_eq_true rfl) ⟨by decide, by decide⟩ ?_
          intro vq shq σq hqq
          obtain ⟨rfl, hsq, hgq, hTq⟩ := hqq
          obtain rfl := hsq.symm
          refine dt_iret dX11_ask_55 rfl (by decide) (by decide) ?_
          have e : oAsk A t w what = (mkV wd.1 w (xCom wd.2), sTc A (mkT wd.1)) := by
            unfold oAsk
            simp only [hat]
            rw [if_neg (by omega), if_neg (by omega)]
          rw [e]
          have el : mkT wd.1 = ([21, 20] : List Int) := by rw [hk]; rfl
          have ev : σb (dt_SH ++ ex).length 0 + σb (dt_SH ++ ex).length 4 = (mkV wd.1 w (xCom wd.2) : Int) := by rw [hb, hv, hu, hk]; rfl
          have hK : cInv _ σq (sTc A (mkT wd.1)) := hJ.tc (ci := 5) ((hgq 0 8 (Or.inl (by omega)) (by omega)).trans e8) ⟨by omega, by omega⟩ hO (by decide) (by rw [el]; exact hTq) (by rw [el]; decide) (fun b k h1 h2 => (hgq b k (Or.inl (by omega)) (by omega)).trans (fb b k h1 h2))
          exact ⟨_, dt_ie ev, rfl, Nat.le_refl 2, hK, fun b h1 h2 => (funext fun k => (hgq b k (Or.inl (by omega)) (by omega)).trans (fb b k (by omega) (Or.inl (by omega)))).trans (hf b (by omega))⟩
        · skip
          refine dt_aload dX11_ask_42 rfl ?_
          refine dt_xO dX11_ask_44 hO.1 rfl pv_X11_246_5 (s_X5_size_5 hO hTb (by decide)) rfl rfl ⟨by decide, by decide⟩ (Nat.le_of_ble_eq_true rfl) ⟨by decide, by decide⟩ ?_
          intro vq shq σq hqq
          obtain ⟨rfl, hsq, hgq, hTq⟩ := hqq
          obtain rfl := hsq.symm
          refine dt_goto (tgt := 55) dX11_ask_47 (by decide) ?_
          refine dt_iret dX11_ask_55 rfl (by decide) (by decide) ?_
          have e : oAsk A t w what = (szV wd.1 wd.2.length w (xCom wd.2), sTc A (szT wd.1)) := by
            unfold oAsk
            simp only [hat]
            rw [if_neg (by omega), if_pos (by omega)]
          rw [e]
          have el : szT wd.1 = ([11, 10, 21, 20] : List Int) := by rw [hk]; rfl
          have ev : σb (dt_SH ++ ex).length 1 + (σb (dt_SH ++ ex).length 0 + σb (dt_SH ++ ex).length 4) = (szV wd.1 wd.2.length w (xCom wd.2) : Int) := by rw [hb, hv, hu, hw1, hk]; rfl
          have hK : cInv _ σq (sTc A (szT wd.1)) := hJ.tc (ci := 5) ((hgq 0 8 (Or.inl (by omega)) (by omega)).trans e8) ⟨by omega, by omega⟩ hO (by decide) (by rw [el]; exact hTq) (by rw [el]; decide) (fun b k h1 h2 => (hgq b k (Or.inl (by omega)) (by omega)).trans (fb b k h1 h2))
          exact ⟨_, dt_ie ev, rfl, Nat.le_refl 2, hK, fun b h1 h2 => (funext fun k => (hgq b k (Or.inl (by omega)) (by omega)).trans (fb b k (by omega) (Or.inl (by omega)))).trans (hf b (by omega))⟩
      · skip
        refine dt_iloadn dX11_ask_38 rfl rfl ?_
        refine dt_if_ne (tgt := 50) dX11_ask_39 (by decide) (by first | assumption | exact hwf _ _ | exact dt_b32 _ | omega | exact ⟨by omega, by omega⟩ | decide | exact ⟨by simp (disch := omega) only [dt_up_s, dt_up_k, dt_up_n]; omega, by simp (disch := omega) only [dt_up_s, dt_up_k, dt_up_n]; omega⟩) (fun c4 => ?_) (fun c4 => ?_)
        · skip
          refine dt_aload dX11_ask_50 rfl ?_
          refine dt_xO dX11_ask_52 hO.1 rfl pv_X11_251_0 (s_X0_mark_0 hO hTb (by decide)) rfl rfl ⟨by decide, by decide⟩ (Nat.le_of_ble_eq_true rfl) ⟨by decide, by decide⟩ ?_
          intro vq shq σq hqq
          obtain ⟨rfl, hsq, hgq, hTq⟩ := hqq
          obtain rfl := hsq.symm
          refine dt_iret dX11_ask_55 rfl (by decide) (by decide) ?_
          have e : oAsk A t w what = (mkV wd.1 w (xCom wd.2), sTc A (mkT wd.1)) := by
            unfold oAsk
            simp only [hat]
            rw [if_neg (by omega), if_neg (by omega)]
          rw [e]
          have el : mkT wd.1 = ([22, 21, 20] : List Int) := by rw [hk]; rfl
          have ev : σb (dt_SH ++ ex).length 0 + σb (dt_SH ++ ex).length 4 + 1000 = (mkV wd.1 w (xCom wd.2) : Int) := by rw [hb, hv, hu, hk]; rfl
          have hK : cInv _ σq (sTc A (mkT wd.1)) := hJ.tc (ci := 0) ((hgq 0 8 (Or.inl (by omega)) (by omega)).trans e8) ⟨by omega, by omega⟩ hO (by decide) (by rw [el]; exact hTq) (by rw [el]; decide) (fun b k h1 h2 => (hgq b k (Or.inl (by omega)) (by omega)).trans (fb b k h1 h2))
          exact ⟨_, dt_ie ev, rfl, Nat.le_refl 2, hK, fun b h1 h2 => (funext fun k => (hgq b k (Or.inl (by omega)) (by omega)).trans (fb b k (by omega) (Or.inl (by omega)))).trans (hf b (by omega))⟩
        · skip
          refine dt_aload dX11_ask_42 rfl ?_
          refine dt_xO dX11_ask_44 hO.1 rfl pv_X11_246_0 (s_X5_size_0 hO hTb (by decide)) rfl rfl ⟨by decide, by decide⟩ (Nat.le_of_ble_eq_true rfl) ⟨by decide, by decide⟩ ?_
          intro vq shq σq hqq
          obtain ⟨rfl, hsq, hgq, hTq⟩ := hqq
          obtain rfl := hsq.symm
          refine dt_goto (tgt := 55) dX11_ask_47 (by decide) ?_
          refine dt_iret dX11_ask_55 rfl (by decide) (by decide) ?_
          have e : oAsk A t w what = (szV wd.1 wd.2.length w (xCom wd.2), sTc A (szT wd.1)) := by
            unfold oAsk
            simp only [hat]
            rw [if_neg (by omega), if_pos (by omega)]
          rw [e]
          have el : szT wd.1 = ([11, 10, 22, 21, 20] : List Int) := by rw [hk]; rfl
          have ev : σb (dt_SH ++ ex).length 1 + (σb (dt_SH ++ ex).length 0 + σb (dt_SH ++ ex).length 4 + 1000) = (szV wd.1 wd.2.length w (xCom wd.2) : Int) := by rw [hb, hv, hu, hw1, hk]; rfl
          have hK : cInv _ σq (sTc A (szT wd.1)) := hJ.tc (ci := 0) ((hgq 0 8 (Or.inl (by omega)) (by omega)).trans e8) ⟨by omega, by omega⟩ hO (by decide) (by rw [el]; exact hTq) (by rw [el]; decide) (fun b k h1 h2 => (hgq b k (Or.inl (by omega)) (by omega)).trans (fb b k h1 h2))
          exact ⟨_, dt_ie ev, rfl, Nat.le_refl 2, hK, fun b h1 h2 => (funext fun k => (hgq b k (Or.inl (by omega)) (by omega)).trans (fb b k (by omega) (Or.inl (by omega)))).trans (hf b (by omega))⟩
      · skip
        refine dt_iloadn dX11_ask_38 rfl rfl ?_
        refine dt_if_ne (tgt := 50) dX11_ask_39 (by decide) (by first | assumption | exact hwf _ _ | exact dt_b32 _ | omega | exact ⟨by omega, by omega⟩ | decide | exact ⟨by simp (disch := omega) only [dt_up_s, dt_up_k, dt_up_n]; omega, by simp (disch := omega) only [dt_up_s, dt_up_k, dt_up_n]; omega⟩) (fun c5 => ?_) (fun c5 => ?_)
        · skip
          refine dt_aload dX11_ask_50 rfl ?_
          refine dt_xO dX11_ask_52 hO.1 rfl pv_X11_251_2 (s_X2_mark_2 hO hTb (by decide)) rfl rfl ⟨by decide, by decide⟩ (Nat.le_of_ble_eq_true rfl) ⟨by decide, by decide⟩ ?_
          intro vq shq σq hqq
          obtain ⟨rfl, hsq, hgq, hTq⟩ := hqq
          obtain rfl := hsq.symm
          refine dt_iret dX11_ask_55 rfl (by decide) (by decide) ?_
          have e : oAsk A t w what = (mkV wd.1 w (xCom wd.2), sTc A (mkT wd.1)) := by
            unfold oAsk
            simp only [hat]
            rw [if_neg (by omega), if_neg (by omega)]
          rw [e]
          have el : mkT wd.1 = ([24, 22, 21, 20] : List Int) := by rw [hk]; rfl
          have ev : 2 * (σb (dt_SH ++ ex).length 0 + σb (dt_SH ++ ex).length 4 + 1000) = (mkV wd.1 w (xCom wd.2) : Int) := by rw [hb, hv, hu, hk]; rfl
          have hK : cInv _ σq (sTc A (mkT wd.1)) := hJ.tc (ci := 2) ((hgq 0 8 (Or.inl (by omega)) (by omega)).trans e8) ⟨by omega, by omega⟩ hO (by decide) (by rw [el]; exact hTq) (by rw [el]; decide) (fun b k h1 h2 => (hgq b k (Or.inl (by omega)) (by omega)).trans (fb b k h1 h2))
          exact ⟨_, dt_ie ev, rfl, Nat.le_refl 2, hK, fun b h1 h2 => (funext fun k => (hgq b k (Or.inl (by omega)) (by omega)).trans (fb b k (by omega) (Or.inl (by omega)))).trans (hf b (by omega))⟩
        · skip
          refine dt_aload dX11_ask_42 rfl ?_
          refine dt_xO dX11_ask_44 hO.1 rfl pv_X11_246_2 (s_X2_size_2 hO hTb (by decide)) rfl rfl ⟨by decide, by decide⟩ (Nat.le_of_ble_eq_true rfl) ⟨by decide, by decide⟩ ?_
          intro vq shq σq hqq
          obtain ⟨rfl, hsq, hgq, hTq⟩ := hqq
          obtain rfl := hsq.symm
          refine dt_goto (tgt := 55) dX11_ask_47 (by decide) ?_
          refine dt_iret dX11_ask_55 rfl (by decide) (by decide) ?_
          have e : oAsk A t w what = (szV wd.1 wd.2.length w (xCom wd.2), sTc A (szT wd.1)) := by
            unfold oAsk
            simp only [hat]
            rw [if_neg (by omega), if_pos (by omega)]
          rw [e]
          have el : szT wd.1 = ([12, 11, 10, 24, 22, 21, 20] : List Int) := by rw [hk]; rfl
          have ev : 0 - (σb (dt_SH ++ ex).length 1 + (2 * (σb (dt_SH ++ ex).length 0 + σb (dt_SH ++ ex).length 4 + 1000))) = (szV wd.1 wd.2.length w (xCom wd.2) : Int) := by rw [hb, hv, hu, hw1, hk]; rfl
          have hK : cInv _ σq (sTc A (szT wd.1)) := hJ.tc (ci := 2) ((hgq 0 8 (Or.inl (by omega)) (by omega)).trans e8) ⟨by omega, by omega⟩ hO (by decide) (by rw [el]; exact hTq) (by rw [el]; decide) (fun b k h1 h2 => (hgq b k (Or.inl (by omega)) (by omega)).trans (fb b k h1 h2))
          exact ⟨_, dt_ie ev, rfl, Nat.le_refl 2, hK, fun b h1 h2 => (funext fun k => (hgq b k (Or.inl (by omega)) (by omega)).trans (fb b k (by omega) (Or.inl (by omega)))).trans (hf b (by omega))⟩
      · skip
        refine dt_iloadn dX11_ask_38 rfl rfl ?_
        refine dt_if_ne (tgt := 50) dX11_ask_39 (by decide) (by first | assumption | exact hwf _ _ | exact dt_b32 _ | omega | exact ⟨by omega, by omega⟩ | decide | exact ⟨by simp (disch := omega) only [dt_up_s, dt_up_k, dt_up_n]; omega, by simp (disch := omega) only [dt_up_s, dt_up_k, dt_up_n]; omega⟩) (fun c6 => ?_) (fun c6 => ?_)
        · skip
          refine dt_aload dX11_ask_50 rfl ?_
          refine dt_xO dX11_ask_52 hO.1 rfl pv_X11_251_1 (s_X1_mark_1 hO hTb (by decide)) rfl rfl ⟨by decide, by decide⟩ (Nat.le_of_ble_eq_true rfl) ⟨by decide, by decide⟩ ?_
          intro vq shq σq hqq
          obtain ⟨rfl, hsq, hgq, hTq⟩ := hqq
          obtain rfl := hsq.symm
          refine dt_iret dX11_ask_55 rfl (by decide) (by decide) ?_
          have e : oAsk A t w what = (mkV wd.1 w (xCom wd.2), sTc A (mkT wd.1)) := by
            unfold oAsk
            simp only [hat]
            rw [if_neg (by omega), if_neg (by omega)]
          rw [e]
          have el : mkT wd.1 = ([23, 20] : List Int) := by rw [hk]; rfl
          have ev : σb (dt_SH ++ ex).length 0 - σb (dt_SH ++ ex).length 4 = (mkV wd.1 w (xCom wd.2) : Int) := by rw [hb, hv, hu, hk]; rfl
          have hK : cInv _ σq (sTc A (mkT wd.1)) := hJ.tc (ci := 1) ((hgq 0 8 (Or.inl (by omega)) (by omega)).trans e8) ⟨by omega, by omega⟩ hO (by decide) (by rw [el]; exact hTq) (by rw [el]; decide) (fun b k h1 h2 => (hgq b k (Or.inl (by omega)) (by omega)).trans (fb b k h1 h2))
          exact ⟨_, dt_ie ev, rfl, Nat.le_refl 2, hK, fun b h1 h2 => (funext fun k => (hgq b k (Or.inl (by omega)) (by omega)).trans (fb b k (by omega) (Or.inl (by omega)))).trans (hf b (by omega))⟩
        · skip
          refine dt_aload dX11_ask_42 rfl ?_
          refine dt_xO dX11_ask_44 hO.1 rfl pv_X11_246_1 (s_X1_size_1 hO hTb (by decide)) rfl rfl ⟨by decide, by decide⟩ (Nat.le_of_ble_eq_true rfl) ⟨by decide, by decide⟩ ?_
          intro vq shq σq hqq
          obtain ⟨rfl, hsq, hgq, hTq⟩ := hqq
          obtain rfl := hsq.symm
          refine dt_goto (tgt := 55) dX11_ask_47 (by decide) ?_
          refine dt_iret dX11_ask_55 rfl (by decide) (by decide) ?_
          have e : oAsk A t w what = (szV wd.1 wd.2.length w (xCom wd.2), sTc A (szT wd.1)) := by
            unfold oAsk
            simp only [hat]
            rw [if_neg (by omega), if_pos (by omega)]
          rw [e]
          have el : szT wd.1 = ([13, 10, 23, 20] : List Int) := by rw [hk]; rfl
          have ev : σb (dt_SH ++ ex).length 1 - (σb (dt_SH ++ ex).length 0 - σb (dt_SH ++ ex).length 4) = (szV wd.1 wd.2.length w (xCom wd.2) : Int) := by rw [hb, hv, hu, hw1, hk]; rfl
          have hK : cInv _ σq (sTc A (szT wd.1)) := hJ.tc (ci := 1) ((hgq 0 8 (Or.inl (by omega)) (by omega)).trans e8) ⟨by omega, by omega⟩ hO (by decide) (by rw [el]; exact hTq) (by rw [el]; decide) (fun b k h1 h2 => (hgq b k (Or.inl (by omega)) (by omega)).trans (fb b k h1 h2))
          exact ⟨_, dt_ie ev, rfl, Nat.le_refl 2, hK, fun b h1 h2 => (funext fun k => (hgq b k (Or.inl (by omega)) (by omega)).trans (fb b k (by omega) (Or.inl (by omega)))).trans (hf b (by omega))⟩
      · skip
        refine dt_iloadn dX11_ask_38 rfl rfl ?_
        refine dt_if_ne (tgt := 50) dX11_ask_39 (by decide) (by first | assumption | exact hwf _ _ | exact dt_b32 _ | omega | exact ⟨by omega, by omega⟩ | decide | exact ⟨by simp (disch := omega) only [dt_up_s, dt_up_k, dt_up_n]; omega, by simp (disch := omega) only [dt_up_s, dt_up_k, dt_up_n]; omega⟩) (fun c7 => ?_) (fun c7 => ?_)
        · skip
          refine dt_aload dX11_ask_50 rfl ?_
          refine dt_xO dX11_ask_52 hO.1 rfl pv_X11_251_3 (s_X1_mark_3 hO hTb (by decide)) rfl rfl ⟨by decide, by decide⟩ (Nat.le_of_ble_eq_true rfl) ⟨by decide, by decide⟩ ?_
          intro vq shq σq hqq
          obtain ⟨rfl, hsq, hgq, hTq⟩ := hqq
          obtain rfl := hsq.symm
          refine dt_iret dX11_ask_55 rfl (by decide) (by decide) ?_
          have e : oAsk A t w what = (mkV wd.1 w (xCom wd.2), sTc A (mkT wd.1)) := by
            unfold oAsk
            simp only [hat]
            rw [if_neg (by omega), if_neg (by omega)]
          rw [e]
          have el : mkT wd.1 = ([23, 20] : List Int) := by rw [hk]; rfl
          have ev : σb (dt_SH ++ ex).length 0 - σb (dt_SH ++ ex).length 4 = (mkV wd.1 w (xCom wd.2) : Int) := by rw [hb, hv, hu, hk]; rfl
          have hK : cInv _ σq (sTc A (mkT wd.1)) := hJ.tc (ci := 3) ((hgq 0 8 (Or.inl (by omega)) (by omega)).trans e8) ⟨by omega, by omega⟩ hO (by decide) (by rw [el]; exact hTq) (by rw [el]; decide) (fun b k h1 h2 => (hgq b k (Or.inl (by omega)) (by omega)).trans (fb b k h1 h2))
          exact ⟨_, dt_ie ev, rfl, Nat.le_refl 2, hK, fun b h1 h2 => (funext fun k => (hgq b k (Or.inl (by omega)) (by omega)).trans (fb b k (by omega) (Or.inl (by omega)))).trans (hf b (by omega))⟩
        · skip
          refine dt_aload dX11_ask_42 rfl ?_
          refine dt_xO dX11_ask_44 hO.1 rfl pv_X11_246_3 (s_X3_size_3 hO hTb (by decide)) rfl rfl ⟨by decide, by decide⟩ (Nat.le_of_ble_eq_true rfl) ⟨by decide, by decide⟩ ?_
          intro vq shq σq hqq
          obtain ⟨rfl, hsq, hgq, hTq⟩ := hqq
          obtain rfl := hsq.symm
          refine dt_goto (tgt := 55) dX11_ask_47 (by decide) ?_
          refine dt_iret dX11_ask_55 rfl (by decide) (by decide) ?_
          have e : oAsk A t w what = (szV wd.1 wd.2.length w (xCom wd.2), sTc A (szT wd.1)) := by
            unfold oAsk
            simp only [hat]
            rw [if_neg (by omega), if_pos (by omega)]
          rw [e]
          have el : szT wd.1 = ([14, 13, 10, 23, 20] : List Int) := by rw [hk]; rfl
          have ev : 2 * (σb (dt_SH ++ ex).length 1 - (σb (dt_SH ++ ex).length 0 - σb (dt_SH ++ ex).length 4)) = (szV wd.1 wd.2.length w (xCom wd.2) : Int) := by rw [hb, hv, hu, hw1, hk]; rfl
          have hK : cInv _ σq (sTc A (szT wd.1)) := hJ.tc (ci := 3) ((hgq 0 8 (Or.inl (by omega)) (by omega)).trans e8) ⟨by omega, by omega⟩ hO (by decide) (by rw [el]; exact hTq) (by rw [el]; decide) (fun b k h1 h2 => (hgq b k (Or.inl (by omega)) (by omega)).trans (fb b k h1 h2))
          exact ⟨_, dt_ie ev, rfl, Nat.le_refl 2, hK, fun b h1 h2 => (funext fun k => (hgq b k (Or.inl (by omega)) (by omega)).trans (fb b k (by omega) (Or.inl (by omega)))).trans (hf b (by omega))⟩
    · skip
      try simp only [dt_b0, dt_b1, Decidable.not_not, Classical.not_not] at c2
      refine dt_ldc dX11_ask_21 pk_X11_74 ?_
      refine dt_iret dX11_ask_23 rfl (by decide) (by decide) ?_
      first
      | (have e : oAsk A t w what = (-1000001, A) := by
          unfold oAsk
          simp only [hat]
         rw [e]
         exact ⟨[], rfl, by rw [List.append_nil], by decide, by rw [List.append_nil]; exact ⟨hI, fun b _ _ => rfl⟩⟩)
      | (have e : oAsk A t w what = (-1000001, A) := by
          unfold oAsk
          simp only [hat]
          rw [if_pos (by omega)]
         rw [e]
         exact ⟨[], rfl, by rw [List.append_nil], by decide, by rw [List.append_nil]; exact ⟨hI, fun b _ _ => rfl⟩⟩)
theorem s_X11_trace {ex : List dt_Shp} {σ : dt_Mem} {A : dS} {i : Int} (hI : cInv ex σ A) (h_i : dt_in32 i) : dt_Sp mX11_trace 1 0 0 [dt_R 0, dt_I i] (dt_SH ++ ex) σ (fun v sh2 σ2 => v = some (dt_I (oTrace A i).1) ∧ sh2 = dt_SH ++ ex ∧ cEnd ex σ σ2 (oTrace A i).2) := by
  refine dt_Sp_of (by decide) (Nat.le_of_ble_eq_true rfl) ?_
  refine dt_wfV fun hwf => ?_
  show dt_V _ _ _ 0 0 0 [some (dt_R 0), some (dt_I i)] [] _ _
  refine dt_aloadn dX11_trace_0 rfl rfl ?_
  refine dt_get dX11_trace_1 pg_X11_55_11 rfl rfl ?_
  rcases hI.2.2.2.2.2.2.2 with ⟨q1, q2⟩ | ⟨w, ci, tg, q1, q3, q4, q5, q6, q7, q8, q9, q10, q11⟩
  · skip
    rw [show dt_rd 2 (σ 0 8) = dt_N from by rw [q1]; rfl]
    refine dt_nnullN dX11_trace_4 ?_
    refine dt_ldc dX11_trace_7 pk_X11_156 ?_
    refine dt_goto (tgt := 20) dX11_trace_9 (by decide) ?_
    refine dt_iret dX11_trace_20 rfl (by decide) (by decide) ?_
    first
    | (refine ⟨dt_ie ?_, rfl, hI, fun b _ _ => rfl⟩; rfl)
    | (refine ⟨dt_ie ?_, rfl, hI, fun b _ _ => rfl⟩; unfold oTrace; rw [q2]; exact (if_neg (fun z => by have := z.2; simp at this; omega)).symm)
  · skip
    have qr : dt_rd 2 (σ 0 8) = dt_R w := by
      rw [q1]
      show (if ((w : Int) < 0) then dt_N else dt_R (w : Int).toNat) = dt_R w
      rw [if_neg (by omega), Int.toNat_natCast]
    rw [qr]
    refine dt_nnullR (tgt := 12) dX11_trace_4 (by decide) ?_
    subst q7
    rcases q6 with rfl | rfl | rfl | rfl | rfl
    · skip
      refine dt_aloadn dX11_trace_12 rfl rfl ?_
      refine dt_get dX11_trace_13 pg_X11_55_11 rfl rfl ?_
      rw [qr]
      refine dt_iloadn dX11_trace_16 rfl rfl ?_
      refine dt_xO dX11_trace_17 q5 rfl pv_X11_254_0 (s_X10_step_0 ⟨q5, q8⟩ ⟨q10, q11⟩ q9 h_i) rfl rfl ⟨by decide, by decide⟩ (Nat.le_of_ble_eq_true rfl) ⟨by decide, by decide⟩ (dt_k3 ?_)
      refine dt_iret dX11_trace_20 rfl (by decide) (by decide) ?_
      first
      | (refine ⟨dt_ie ?_, rfl, hI, fun b _ _ => rfl⟩; rfl)
      | (refine ⟨dt_ie ?_, rfl, hI, fun b _ _ => rfl⟩; unfold oTrace; rw [q2]; exact (if_neg (fun z => by have := z.2; simp at this; omega)).symm)
    · skip
      refine dt_aloadn dX11_trace_12 rfl rfl ?_
      refine dt_get dX11_trace_13 pg_X11_55_11 rfl rfl ?_
      rw [qr]
      refine dt_iloadn dX11_trace_16 rfl rfl ?_
      refine dt_xO dX11_trace_17 q5 rfl pv_X11_254_1 (s_X10_step_1 ⟨q5, q8⟩ ⟨q10, q11⟩ q9 h_i) rfl rfl ⟨by decide, by decide⟩ (Nat.le_of_ble_eq_true rfl) ⟨by decide, by decide⟩ (dt_k3 ?_)
      refine dt_iret dX11_trace_20 rfl (by decide) (by decide) ?_
      first
      | (refine ⟨dt_ie ?_, rfl, hI, fun b _ _ => rfl⟩; rfl)
      | (refine ⟨dt_ie ?_, rfl, hI, fun b _ _ => rfl⟩; unfold oTrace; rw [q2]; exact (if_neg (fun z => by have := z.2; simp at this; omega)).symm)
    · skip
      refine dt_aloadn dX11_trace_12 rfl rfl ?_
      refine dt_get dX11_trace_13 pg_X11_55_11 rfl rfl ?_
      rw [qr]
      refine dt_iloadn dX11_trace_16 rfl rfl ?_
      refine dt_xO dX11_trace_17 q5 rfl pv_X11_254_2 (s_X10_step_2 ⟨q5, q8⟩ ⟨q10, q11⟩ q9 h_i) rfl rfl ⟨by decide, by decide⟩ (Nat.le_of_ble_eq_true rfl) ⟨by decide, by decide⟩ (dt_k3 ?_)
      refine dt_iret dX11_trace_20 rfl (by decide) (by decide) ?_
      first
      | (refine ⟨dt_ie ?_, rfl, hI, fun b _ _ => rfl⟩; rfl)
      | (refine ⟨dt_ie ?_, rfl, hI, fun b _ _ => rfl⟩; unfold oTrace; rw [q2]; exact (if_neg (fun z => by have := z.2; simp at this; omega)).symm)
    · skip
      refine dt_aloadn dX11_trace_12 rfl rfl ?_
      refine dt_get dX11_trace_13 pg_X11_55_11 rfl rfl ?_
      rw [qr]
      refine dt_iloadn dX11_trace_16 rfl rfl ?_
      refine dt_xO dX11_trace_17 q5 rfl pv_X11_254_3 (s_X10_step_3 ⟨q5, q8⟩ ⟨q10, q11⟩ q9 h_i) rfl rfl ⟨by decide, by decide⟩ (Nat.le_of_ble_eq_true rfl) ⟨by decide, by decide⟩ (dt_k3 ?_)
      refine dt_iret dX11_trace_20 rfl (by decide) (by decide) ?_
      first
      | (refine ⟨dt_ie ?_, rfl, hI, fun b _ _ => rfl⟩; rfl)
      | (refine ⟨dt_ie ?_, rfl, hI, fun b _ _ => rfl⟩; unfold oTrace; rw [q2]; exact (if_neg (fun z => by have := z.2; simp at this; omega)).symm)
    · skip
      refine dt_aloadn dX11_trace_12 rfl rfl ?_
      refine dt_get dX11_trace_13 pg_X11_55_11 rfl rfl ?_
      rw [qr]
      refine dt_iloadn dX11_trace_16 rfl rfl ?_
      refine dt_xO dX11_trace_17 q5 rfl pv_X11_254_5 (s_X10_step_5 ⟨q5, q8⟩ ⟨q10, q11⟩ q9 h_i) rfl rfl ⟨by decide, by decide⟩ (Nat.le_of_ble_eq_true rfl) ⟨by decide, by decide⟩ (dt_k3 ?_)
      refine dt_iret dX11_trace_20 rfl (by decide) (by decide) ?_
      first
      | (refine ⟨dt_ie ?_, rfl, hI, fun b _ _ => rfl⟩; rfl)
      | (refine ⟨dt_ie ?_, rfl, hI, fun b _ _ => rfl⟩; unfold oTrace; rw [q2]; exact (if_neg (fun z => by have := z.2; simp at this; omega)).symm)
