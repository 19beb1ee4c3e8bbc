/-! truth values as ints -/
noncomputable def dt_b (c : Prop) : Int := @ite Int c (Classical.propDecidable c) 1 0
theorem dt_bT {c : Prop} (h : c) : dt_b c = 1 := if_pos h
theorem dt_bF {c : Prop} (h : ¬ c) : dt_b c = 0 := if_neg h
theorem dt_b0 {c : Prop} : (dt_b c = 0) = ¬ c := by
  by_cases h : c
  · rw [dt_bT h]; simp [h]
  · rw [dt_bF h]; simp [h]
theorem dt_b1 {c : Prop} : (dt_b c = 1) = c := by
  by_cases h : c
  · rw [dt_bT h]; simp [h]
  · rw [dt_bF h]; simp [h]
theorem dt_b01 (c : Prop) : dt_b c = 0 ∨ dt_b c = 1 := by
  by_cases h : c
  · exact Or.inr (dt_bT h)
  · exact Or.inl (dt_bF h)
theorem dt_b32 (c : Prop) : dt_in32 (dt_b c) := by
  rcases dt_b01 c with h | h <;> rw [h] <;> decide
theorem dt_bc {c d : Prop} (h : c ↔ d) : dt_b c = dt_b d := by rw [propext h]
/-! locals: fewer known -/
def dt_sub : List (Option dt_MV) → List (Option dt_MV) → Prop
  | [], _ => True
  | none :: a, _ :: b => dt_sub a b
  | none :: a, [] => dt_sub a []
  | some v :: a, w :: b => w = some v ∧ dt_sub a b
  | some _ :: _, [] => False
theorem dt_sub_at : ∀ (a b : List (Option dt_MV)), dt_sub a b → ∀ (i : Nat) (v : dt_MV), a[i]? = some (some v) → b[i]? = some (some v)
  | [], _, _, i, v, h => absurd h (by simp)
  | none :: a, _ :: b, hs, 0, v, h => absurd h (by simp)
  | none :: a, _ :: b, hs, i + 1, v, h => dt_sub_at a b hs i v h
  | none :: a, [], hs, 0, v, h => absurd h (by simp)
  | none :: a, [], hs, i + 1, v, h => absurd (dt_sub_at a [] hs i v h) (by simp)
  | some _ :: a, _ :: b, hs, 0, v, h => by
    obtain ⟨rfl, -⟩ := hs
    exact h
  | some _ :: a, _ :: b, hs, i + 1, v, h => dt_sub_at a b hs.2 i v h
  | some _ :: _, [], hs, _, _, _ => hs.elim
section DTL
variable {M : dt_MD} {R : Room} {C : dt_Cx} {kc ks pc : Nat} {ls : List (Option dt_MV)} {st : List dt_MV} {sh : List dt_Shp} {σ : dt_Mem}
theorem dt_lsub {st : List dt_MV} {ls' : List (Option dt_MV)} (h : dt_sub ls' ls) (k : dt_V M R C kc ks pc ls' st sh σ) : dt_V M R C kc ks pc ls st sh σ := dt_ls (dt_sub_at ls' ls h) k
theorem dt_lb {st : List dt_MV} {ls' : List (Option dt_MV)} (k : dt_V M R C kc ks pc ls' st sh σ) (h : dt_sub ls' ls) : dt_V M R C kc ks pc ls st sh σ := dt_ls (dt_sub_at ls' ls h) k
theorem dt_xV {Mc : dt_MD} {idx n d mc ms a ci : Nat} {av : List dt_MV} {tags : List Nat} {q : vw_C} {stk : List dt_MV} {Q : Option dt_MV → List dt_Shp → dt_Mem → Prop} (hd : decode M.2.1 pc = .ok (.invokevirtual idx, 3)) (hw : dt_wv M.1.cls idx Mc n) (hs : sh[a]? = some (.inl (ci, tags))) (sp : dt_Sp Mc d mc ms (dt_R a :: av) sh σ Q) (hst : stk = List.reverseAux av (dt_R a :: st)) (hn : av.length = n) (hR : d + 1 ≤ R.frames ∧ 8 + (Mc.2.2.1 + 11) + 40 * d ≤ R.locals) (hc : dt_cls[ci]? = some q) (hq : q.1 = Mc.1.cls) (hr : (st.map dt_ct).sum ≤ 8) (hf : kc + mc ≤ R.cells ∧ ks + ms ≤ R.slots)
    (kk : ∀ v sh' σ', Q v sh' σ' → dt_V M R C (kc + mc) (ks + ms) (pc + 3) ls (v.toList ++ st) sh' σ') : dt_V M R C kc ks pc ls stk sh σ :=
  dt_callV hd hw hs hc hq sp (hst.trans List.reverseAux_eq) hn hR hr hf kk
theorem dt_xO {Mc : dt_MD} {idx n d mc ms a ci : Nat} {x : MethodName} {owner : String} {av : List dt_MV} {tags : List Nat} {q : vw_C} {stk : List dt_MV} {Q : Option dt_MV → List dt_Shp → dt_Mem → Prop} (hd : decode M.2.1 pc = .ok (.invokevirtual idx, 3)) (hs : sh[a]? = some (.inl (ci, tags))) (hc : dt_cls[ci]? = some q) (hw : dt_wo M.1.cls idx q.1 owner x Mc n) (sp : dt_Sp Mc d mc ms (dt_R a :: av) sh σ Q) (hst : stk = List.reverseAux av (dt_R a :: st)) (hn : av.length = n) (hR : d + 1 ≤ R.frames ∧ 8 + (Mc.2.2.1 + 11) + 40 * d ≤ R.locals) (hr : (st.map dt_ct).sum ≤ 8) (hf : kc + mc ≤ R.cells ∧ ks + ms ≤ R.slots)
    (kk : ∀ v sh' σ', Q v sh' σ' → dt_V M R C (kc + mc) (ks + ms) (pc + 3) ls (v.toList ++ st) sh' σ') : dt_V M R C kc ks pc ls stk sh σ :=
  dt_callO hd hs hc hw sp (hst.trans List.reverseAux_eq) hn hR hr hf kk
theorem dt_xSU {Mc : dt_MD} {idx n d mc ms a ci : Nat} {av : List dt_MV} {tags : List Nat} {q : vw_C} {stk : List dt_MV} {Q : Option dt_MV → List dt_Shp → dt_Mem → Prop} (hd : decode M.2.1 pc = .ok (.invokespecial idx, 3)) (hs : sh[a]? = some (.inl (ci, tags))) (hc : dt_cls[ci]? = some q) (hw : dt_wsu M.1.cls idx Mc n) (sp : dt_Sp Mc d mc ms (dt_R a :: av) sh σ Q) (hst : stk = List.reverseAux av (dt_R a :: st)) (hn : av.length = n) (hR : d + 1 ≤ R.frames ∧ 8 + (Mc.2.2.1 + 11) + 40 * d ≤ R.locals) (hr : (st.map dt_ct).sum ≤ 8) (hf : kc + mc ≤ R.cells ∧ ks + ms ≤ R.slots)
    (kk : ∀ v sh' σ', Q v sh' σ' → dt_V M R C (kc + mc) (ks + ms) (pc + 3) ls (v.toList ++ st) sh' σ') : dt_V M R C kc ks pc ls stk sh σ :=
  dt_callSU hd hs hc hw sp (hst.trans List.reverseAux_eq) hn hR hr hf kk
theorem dt_xS {Mc : dt_MD} {idx n d mc ms : Nat} {av : List dt_MV} {stk : List dt_MV} {Q : Option dt_MV → List dt_Shp → dt_Mem → Prop} (hd : decode M.2.1 pc = .ok (.invokestatic idx, 3)) (hw : dt_wst M.1.cls idx Mc n) (sp : dt_Sp Mc d mc ms av sh σ Q) (hst : stk = List.reverseAux av st) (hn : av.length = n) (hR : d + 1 ≤ R.frames ∧ 8 + (Mc.2.2.1 + 11) + 40 * d ≤ R.locals) (hr : (st.map dt_ct).sum ≤ 8) (hf : kc + mc ≤ R.cells ∧ ks + ms ≤ R.slots)
    (kk : ∀ v sh' σ', Q v sh' σ' → dt_V M R C (kc + mc) (ks + ms) (pc + 3) ls (v.toList ++ st) sh' σ') : dt_V M R C kc ks pc ls stk sh σ :=
  dt_callS hd hw sp (hst.trans List.reverseAux_eq) hn hR hr hf kk
theorem dt_xI {Mc : dt_MD} {idx n d mc ms a : Nat} {av : List dt_MV} {stk : List dt_MV} {Q : Option dt_MV → List dt_Shp → dt_Mem → Prop} (hd : decode M.2.1 pc = .ok (.invokespecial idx, 3)) (hw : dt_wi M.1.cls idx Mc n) (sp : dt_Sp Mc d mc ms (dt_R a :: av) sh σ Q) (hst : stk = List.reverseAux av (dt_R a :: st)) (hn : av.length = n) (hR : d + 1 ≤ R.frames ∧ 8 + (Mc.2.2.1 + 11) + 40 * d ≤ R.locals) (hr : (st.map dt_ct).sum ≤ 8) (hf : kc + mc ≤ R.cells ∧ ks + ms ≤ R.slots)
    (kk : ∀ v sh' σ', Q v sh' σ' → dt_V M R C (kc + mc) (ks + ms) (pc + 3) ls (v.toList ++ st) sh' σ') : dt_V M R C kc ks pc ls stk sh σ :=
  dt_callI hd hw sp (hst.trans List.reverseAux_eq) hn hR hr hf kk
theorem dt_xStr {Mc : dt_MD} {idx n d mc ms i : Nat} {av : List dt_MV} {stk : List dt_MV} {Q : Option dt_MV → List dt_Shp → dt_Mem → Prop} (hi : i < 8) (hd : decode M.2.1 pc = .ok (.invokevirtual idx, 3)) (hw : dt_wv M.1.cls idx Mc n) (hq : Mc.1.cls = "java/lang/String") (sp : dt_Sp Mc d mc ms (dt_S (2 * i) :: av) sh σ Q) (hst : stk = List.reverseAux av (dt_S (2 * i) :: st)) (hn : av.length = n) (hR : d + 1 ≤ R.frames ∧ 8 + (Mc.2.2.1 + 11) + 40 * d ≤ R.locals) (hr : (st.map dt_ct).sum ≤ 8) (hf : kc + mc ≤ R.cells ∧ ks + ms ≤ R.slots)
    (kk : ∀ v sh' σ', Q v sh' σ' → dt_V M R C (kc + mc) (ks + ms) (pc + 3) ls (v.toList ++ st) sh' σ') : dt_V M R C kc ks pc ls stk sh σ :=
  dt_callStr hi hd hw hq sp (hst.trans List.reverseAux_eq) hn hR hr hf kk
theorem dt_ui2l {x : Int} (hd : decode M.2.1 pc = .ok (.i2l, 1)) (hx : dt_in32 x) (k : dt_V M R C kc ks (pc + 1) ls (dt_L x :: st) sh σ) : dt_V M R C kc ks pc ls (dt_I x :: st) sh σ := dt_i2l (y := 0) hd hx k
theorem dt_ul2i {x : Int} (hd : decode M.2.1 pc = .ok (.l2i, 1)) (k : dt_V M R C kc ks (pc + 1) ls (dt_I x :: st) sh σ) : dt_V M R C kc ks pc ls (dt_L x :: st) sh σ := dt_l2i (y := 0) hd k
theorem dt_uineg {x : Int} (hd : decode M.2.1 pc = .ok (.ineg, 1)) (k : dt_V M R C kc ks (pc + 1) ls (dt_I (-x) :: st) sh σ) : dt_V M R C kc ks pc ls (dt_I x :: st) sh σ := dt_ineg (y := 0) hd k
theorem dt_ui2b {x : Int} (hd : decode M.2.1 pc = .ok (.i2b, 1)) (k : dt_V M R C kc ks (pc + 1) ls (dt_I (dj_i2b x) :: st) sh σ) : dt_V M R C kc ks pc ls (dt_I x :: st) sh σ := dt_i2b (y := 0) hd k
theorem dt_ui2s {x : Int} (hd : decode M.2.1 pc = .ok (.i2s, 1)) (k : dt_V M R C kc ks (pc + 1) ls (dt_I (dj_i2s x) :: st) sh σ) : dt_V M R C kc ks pc ls (dt_I x :: st) sh σ := dt_i2s (y := 0) hd k
theorem dt_ui2c {x : Int} (hd : decode M.2.1 pc = .ok (.i2c, 1)) (k : dt_V M R C kc ks (pc + 1) ls (dt_I (dj_i2c x) :: st) sh σ) : dt_V M R C kc ks pc ls (dt_I x :: st) sh σ := dt_i2c (y := 0) hd k
end DTL
theorem dt_k3 {P : Option dt_MV → List dt_Shp → dt_Mem → Prop} {V0 : Option dt_MV} {s0 : List dt_Shp} {m0 : dt_Mem} (h : P V0 s0 m0) : ∀ v sh σ, (v = V0 ∧ sh = s0 ∧ σ = m0) → P v sh σ := by
  rintro _ _ _ ⟨rfl, rfl, rfl⟩
  exact h
theorem dt_up_s {σ : dt_Mem} {a k : Nat} {v : Int} : dt_up σ a k v a k = v := by simp [dt_up]
theorem dt_up_k {σ : dt_Mem} {a k j : Nat} {v : Int} (h : j ≠ k) : dt_up σ a k v a j = σ a j := by simp [dt_up, h]
theorem dt_up_n {σ : dt_Mem} {a b k j : Nat} {v : Int} (h : b ≠ a) : dt_up σ a k v b j = σ b j := by simp [dt_up, h]
theorem dt_up_o {σ : dt_Mem} {a b k : Nat} {v : Int} (h : b ≠ a) : dt_up σ a k v b = σ b := by funext j; simp [dt_up, h]
/-! where the class's cells lie -/
def dt_pSh (sh : List dt_Shp) (p : Nat) : Prop := sh[p]? = some (.inl (6, [p + 5, p + 6, p + 7, p + 8, p + 9, 0, 0, 0])) ∧ sh[p + 1]? = some (.inr (0, 7)) ∧ sh[p + 2]? = some (.inr (0, 56)) ∧ sh[p + 3]? = some (.inr (0, 56)) ∧ sh[p + 4]? = some (.inr (0, 168)) ∧ sh[p + 5]? = some (.inr (0, 8))
