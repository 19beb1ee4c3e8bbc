
section DTU
variable {p : Program} {l : Launch} {e : Env} {R : Room} {s : State} {m : MethodId} {args : Array Value} {below : List Frame} {meth : Method} {c : Code}
/-- super.m(..) where the superclass inherits m from its own one -/
theorem dt_su2 {T : State} {locs : List Loc} {cells slots : Nat} (X : Stand p l e R s m args below meth c T locs cells slots) (hexec : p.tables.exec = Jvm.exec) {own sup : String} {index : Nat} {y : MethodName} {bytes : ByteArray} {maxL : Nat} {ret : Option FieldType}
    (hown : s.vm.findClass own = some m.cls) (hlink : (Cond.methodLink own index ⟨sup, y.name, y.desc⟩).before args s = true) (hsame : (Cond.sameMethod sup y.cls y.name y.desc).before args s = true) (hsup : (Cond.superclass own sup).before args s = true) (hsup2 : (Cond.superclass sup y.cls).before args s = true)
    (hinst : (Cond.instanceMethod y).before args s = true) (hcode : (Cond.code y bytes maxL ret).before args s = true) (hno : y.name ≠ "<init>")
    {W : Nat} {Pre : Pt → Array Value → Prop} {Post : Pt → Array Value → Option Value → Pt → Prop} (hK : Back l R p e below s args y 3 W Pre Post)
    {b : Addr} {cellB : Cell} {kB : Class} (hcell : T.heap[b]? = some cellB) (hobj : cellB.vm.isStatics = false) (hkB : s.vm.classes[cellB.cls]? = some kB)
    {g : JFrame} (hg : g.method = m) (hsize : g.locals.size = c.maxLocals) {argsL rest : List Value} (hlen : ∀ sig, parseMethodDescriptor y.desc = some sig → argsL.length = sig.parameters.length)
    (hstack : g.stack = argsL.reverse ++ .ref b :: rest) (hW : 2 * g.monitorRoom + (rest.map fun v => v.category).sum ≤ W) (hdg : decode c.code g.pc = .ok (.invokespecial index, 3))
    (hpre : ∀ vm₁, s.WarmedH vm₁ → Pre ⟨T.setVm vm₁, locs, cells, slots⟩ (Value.ref b :: argsL).toArray) :
    ∃ (v : Option Value) (vm₁ : Vm) (B : Pt), s.WarmedH vm₁ ∧ Stand p l e R s m args below meth c B.U B.locs B.cells B.slots ∧ Post ⟨T.setVm vm₁, locs, cells, slots⟩ (Value.ref b :: argsL).toArray v B ∧
      ∀ target, Steps p.tables e below (B.U.setTop { g with pc := g.pc + 3, stack := v.toList ++ rest }) target → Steps p.tables e below (T.setTop g) target := by
  obtain ⟨mk, methM, hnamed, hmethM, hstM, habM⟩ := Cond.instanceMethod_spec hinst
  obtain ⟨methM2, cM, hm2, -, -, -, -, -, -, hsigM⟩ := Cond.code_spec hnamed hcode
  cases hmethM.symm.trans hm2
  obtain ⟨ps, dk, kp, hps, hdk, hkp, hsuper, -, -, hnid⟩ := Cond.superclass_spec hown hsup
  obtain ⟨p2, k2, kp2, hp2, hk2, -, hsuper2, -, -, -⟩ := Cond.superclass_spec hps hsup2
  have hpm : p2 = mk.cls := Option.some.inj (hp2.symm.trans (findClass_of_methodNamed hnamed))
  have hsub : s.vm.isSubclass ps mk.cls = true := by
    have hz : s.vm.classes.size = s.vm.classes.size - 1 + 1 := by
      have := (Array.getElem?_eq_some_iff.mp hk2).1
      omega
    unfold Vm.isSubclass
    rw [hz]
    simp [Vm.isSubclassAux, hk2, hsuper2, hpm]
  obtain ⟨vm₁, X₁, step₁⟩ := X.invokespecialUp (x := ⟨sup, y.name, y.desc⟩) (owner := y.cls) hexec hown hlink hsame hnamed hmethM hstM habM hno hdk hnid hps hsuper hsub (a := b) (cell := cellB) hcell
    (fun z h => by rw [h] at hobj; cases hobj) hkB (g := g) hg (argsL := argsL) (rest := rest) (hlen _ hsigM) hstack hdg
  obtain ⟨v, B, X2, hpost, st⟩ := hK m meth c ⟨T.setVm vm₁, locs, cells, slots⟩ { g with stack := rest } (.invokespecial index) mk (Value.ref b :: argsL).toArray X₁ hg hsize hdg hW (X₁.named hnamed) (hpre vm₁ X₁.warmed)
  exact ⟨v, vm₁, B, X₁.warmed, X2, hpost, fun target h => step₁ _ (by rw [doInvoke_state]; exact st.trans h)⟩
end DTU
section DTU2
variable {M : dt_MD} {R : Room} {C : dt_Cx} {kc ks pc : Nat} {ls : List (Option dt_MV)} {st : List dt_MV} {sh : List dt_Shp} {σ : dt_Mem}
theorem dt_xSU2 {Mc : dt_MD} {idx d mc ms a ci : Nat} {sup : String} {tags : List Nat} {q : vw_C} {Q : Option dt_MV → List dt_Shp → dt_Mem → Prop} (hd : decode M.2.1 pc = .ok (.invokespecial idx, 3)) (hs : sh[a]? = some (.inl (ci, tags))) (hc : dt_cls[ci]? = some q)
    (w1 : Cond.methodLink M.1.cls idx ⟨sup, Mc.1.name, Mc.1.desc⟩ ∈ dt_tbl) (w2 : Cond.sameMethod sup Mc.1.cls Mc.1.name Mc.1.desc ∈ dt_tbl) (w3 : Cond.superclass M.1.cls sup ∈ dt_tbl) (w4 : Cond.superclass sup Mc.1.cls ∈ dt_tbl) (w5 : Cond.instanceMethod Mc.1 ∈ dt_tbl) (w6 : Cond.initialized Mc.1.cls ∈ dt_tbl) (w7 : Cond.code Mc.1 Mc.2.1 Mc.2.2.1 Mc.2.2.2 ∈ dt_tbl)
    (hno : Mc.1.name ≠ "<init>") (hps : (parseMethodDescriptor Mc.1.desc).map (fun d => d.parameters.length) = some 0) (sp : dt_Sp Mc d mc ms [dt_R a] sh σ Q) (hR : d + 1 ≤ R.frames ∧ 8 + (Mc.2.2.1 + 11) + 40 * d ≤ R.locals) (hr : (st.map dt_ct).sum ≤ 8) (hf : kc + mc ≤ R.cells ∧ ks + ms ≤ R.slots)
    (kk : ∀ v sh' σ', Q v sh' σ' → dt_V M R C (kc + mc) (ks + ms) (pc + 3) ls (v.toList ++ st) sh' σ') : dt_V M R C kc ks pc ls (dt_R a :: st) sh σ := by
  intro p l e s m args below meth c D dA S B H locs lsA Z F X P hS L
  have hp := dt_pre (av := [dt_R a]) F P hS
  have ht := F.2.2.2.2.2.2.1
  have hG : GoodIn dt_tbl (.code Mc.1 Mc.2.1 Mc.2.2.1 Mc.2.2.2 :: dt_tbl) := fun w hw => (List.mem_cons.mp hw).elim (fun z => z ▸ dt_good _ w7) (fun z => dt_good _ z)
  obtain ⟨cellB, hcB, hoB, hclB⟩ := dt_rcv F.2.2.2.2.2.2.2.2.1 P hs hc
  obtain ⟨hfc, kB, hkB, -⟩ := (F.2.2.2.2.2.2.2.2.1.1 ci q hc).2
  have hcc := Option.some.inj (hfc.symm.trans hclB)
  rw [hcc] at hkB
  refine dt_run (ls := ls) (st0 := ((dt_R a :: st).map (dt_tr B S))) (a := [dt_tr B S (dt_R a)].toArray) (mc := mc) (ms := ms) (Q := Q) F X hS L ?_ kk
  have hK : Back l R p e below s args Mc.1 3 8 _ _ := back_of (bytes := Mc.2.1) (maxL := Mc.2.2.1) (ret := Mc.2.2.2) (sp l D dA S B) hp.1 rfl rfl hR.1 hR.2 (pay_in ht hG) List.mem_cons_self (fun a' U hW => word_at hW (Or.inl (by first | rfl | simp [Cond.onTables, Cond.keeps, Cond.steady])) (ht _ w6))
  intro T hT X1
  obtain ⟨v, vm₁, ⟨U', l2, c2, s2⟩, hW₁, X', ⟨g', mk, t, L2, e1, e2, hq, h1, hL, h2, h3⟩, stp⟩ := dt_su2 X1 F.1 (bytes := Mc.2.1) (maxL := Mc.2.2.1) (ret := Mc.2.2.2) F.2.2.2.2.1 (ht _ w1) (ht _ w2) (ht _ w3) (ht _ w4) (ht _ w5) (ht _ w7) hno hK (by rw [hT]; exact hcB) hoB hkB (g := F0 m pc lsA ((dt_R a :: st).map (dt_tr B S))) rfl (L.1.trans F.2.2.1.symm) (argsL := []) (rest := st.map (dt_tr B S)) (fun sig h => by
      rw [h] at hps
      exact (Option.some.inj hps).symm) rfl (lv_room (by rw [dt_ct_sum]; exact hr)) (by rw [F.2.1]; exact hd)
    (fun vm₁ hW₁ => ⟨hf.1, hf.2, hp.2 (T.setVm vm₁) hT hW₁⟩)
  dsimp only [Pt.U, Pt.locs, Pt.cells, Pt.slots] at X' e1 e2 h1 h2 h3 stp
  subst h1; subst h2; subst h3
  exact ⟨v, (T.setVm vm₁).calling g' mk [dt_tr B S (dt_R a)].toArray, t, U', L2, hT, X', hL, e1, e2, hq, stp⟩
end DTU2
/-! a word as it is asked: its number, its readings, the steps it leaves -/
def wO (sh : List dt_Shp) (w ci : Nat) : Prop := sh[w]? = some (.inl (ci, [0, 0, w + 1 + 4, 0, 0])) ∧ sh[w + 1]? = some (.inr (0, 16))
def wT (σ : dt_Mem) (w : Nat) (l : List Int) : Prop := σ w 3 = l.length ∧ ∀ (i : Nat) (x : Int), l[i]? = some x → σ (w + 1) i = x
def wG (w : Nat) (σ σ1 : dt_Mem) : Prop := ∀ b k, (b ≠ w ∨ k ≠ 3) → b ≠ w + 1 → σ1 b k = σ b k
theorem wG.refl (w : Nat) (σ : dt_Mem) : wG w σ σ := fun _ _ _ _ => rfl
theorem wG.tr {w : Nat} {σ σ1 σ2 : dt_Mem} (h : wG w σ σ1) (g : wG w σ1 σ2) : wG w σ σ2 := fun b k a c => (g b k a c).trans (h b k a c)
theorem wG.f {w : Nat} {σ σ1 : dt_Mem} (h : wG w σ σ1) : σ1 w 0 = σ w 0 ∧ σ1 w 1 = σ w 1 ∧ σ1 w 4 = σ w 4 := ⟨h w 0 (Or.inr (by decide)) (by omega), h w 1 (Or.inr (by decide)) (by omega), h w 4 (Or.inr (by decide)) (by omega)⟩
theorem wT.app {σ : dt_Mem} {w : Nat} {l : List Int} {x : Int} (h : wT σ w l) : wT (dt_up (dt_up σ (w + 1) l.length x) w 3 ((l.length : Int) + 1)) w (l ++ [x]) := by
  refine ⟨by rw [dt_up_s, List.length_append]; rfl, fun i y hy => ?_⟩
  rcases dt_ap hy with g | ⟨rfl, rfl⟩
  · have := dt_gl g
    rw [dt_up_n (by omega), dt_up_k (by omega)]
    exact h.2 i y g
  · rw [dt_up_n (by omega), dt_up_s]
theorem w2_1 : Cond.methodLink "DayTongues$LentWord" 13 ⟨"DayTongues$CountingWord", "size", "()I"⟩ ∈ dt_tbl := (dt_at 884 (by decide +kernel) (by decide +kernel))
theorem w2_2 : Cond.sameMethod "DayTongues$CountingWord" "DayTongues$PlainWord" "size" "()I" ∈ dt_tbl := (dt_at 885 (by decide +kernel) (by decide +kernel))
theorem w2_3 : Cond.superclass "DayTongues$LentWord" "DayTongues$CountingWord" ∈ dt_tbl := (dt_at 784 (by decide +kernel) (by decide +kernel))
theorem w2_4 : Cond.superclass "DayTongues$CountingWord" "DayTongues$PlainWord" ∈ dt_tbl := (dt_at 772 (by decide +kernel) (by decide +kernel))
theorem w2_5 : Cond.instanceMethod ⟨"DayTongues$PlainWord", "size", "()I"⟩ ∈ dt_tbl := (dt_at 831 (by decide +kernel) (by decide +kernel))
theorem w2_6 : Cond.initialized "DayTongues$PlainWord" ∈ dt_tbl := (dt_at 16 (by decide +kernel) (by decide +kernel))
theorem w2_7 : Cond.code mX5_size.1 mX5_size.2.1 mX5_size.2.2.1 mX5_size.2.2.2 ∈ dt_tbl := (dt_at 832 (by decide +kernel) (by decide +kernel))
theorem s_leave_5 {sh : List dt_Shp} {σ : dt_Mem} {w : Nat} {l : List Int} {x : Int} (hO : wO sh w 5) (hT : wT σ w l) (hl : l.length < 16) (hx : dt_in32 x) : dt_Sp mX10_leave 0 0 0 [dt_R w, dt_I x] sh σ (fun v sh2 σ2 => v = none ∧ sh2 = sh ∧ wG w σ σ2 ∧ wT σ2 w (l ++ [x])) := by
  refine dt_Sp_of (by decide) (Nat.le_of_ble_eq_true rfl) ?_
  refine dt_wfV fun hwf => ?_
  have h3 := hT.1
  show dt_V _ _ _ 0 0 0 [some (dt_R w), some (dt_I x)] [] _ _
  refine dt_aloadn dX10_leave_0 rfl rfl ?_
  refine dt_getI dX10_leave_1 pg_X10_22_5 hO.1 rfl ?_
  refine dt_bipush dX10_leave_4 (by decide) ?_
  refine dt_cm_ge (tgt := 29) dX10_leave_6 (by decide) (by first | assumption | exact hwf _ _ | exact dt_b32 _ | omega | exact ⟨by omega, by omega⟩ | decide | exact ⟨by simp (disch := omega) only [dt_up_s, dt_up_k, dt_up_n]; omega, by simp (disch := omega) only [dt_up_s, dt_up_k, dt_up_n]; omega⟩) (by first | assumption | exact hwf _ _ | exact dt_b32 _ | omega | exact ⟨by omega, by omega⟩ | decide | exact ⟨by simp (disch := omega) only [dt_up_s, dt_up_k, dt_up_n]; omega, by simp (disch := omega) only [dt_up_s, dt_up_k, dt_up_n]; omega⟩) (fun c1 => ?_) (fun c1 => ?_)
  · skip
    first | exact absurd c1 (by omega) | exact absurd c1 (by decide) | exact absurd rfl c1
  · skip
    refine dt_aloadn dX10_leave_9 rfl rfl ?_
    refine dt_getR dX10_leave_10 pg_X10_18_5 hO.1 rfl ?_
    refine dt_aloadn dX10_leave_13 rfl rfl ?_
    refine dt_getI dX10_leave_14 pg_X10_22_5 hO.1 rfl ?_
    rw [h3]
    refine dt_iloadn dX10_leave_17 rfl rfl ?_
    refine dt_wfV fun hwf => ?_
    refine dt_iast dX10_leave_18 hO.2 (by first | omega | (simp (disch := omega) only [dt_up_s, dt_up_k, dt_up_n]; omega)) (by first | omega | (simp (disch := omega) only [dt_up_s, dt_up_k, dt_up_n]; omega)) (by decide) (by first | assumption | exact hwf _ _ | exact dt_b32 _ | omega | exact ⟨by omega, by omega⟩ | decide | exact ⟨by simp (disch := omega) only [dt_up_s, dt_up_k, dt_up_n]; omega, by simp (disch := omega) only [dt_up_s, dt_up_k, dt_up_n]; omega⟩) ?_
    rw [Int.toNat_natCast]
    refine dt_aloadn dX10_leave_19 rfl rfl ?_
    refine dt_dupR dX10_leave_20 ?_
    refine dt_getI dX10_leave_21 pg_X10_22_5 hO.1 rfl ?_
    rw [dt_up_n (by omega), h3]
    refine dt_iconst dX10_leave_24 ?_
    refine dt_iadd dX10_leave_25 ?_
    refine dt_wfV fun hwf => ?_
    refine dt_putI dX10_leave_26 pw_X10_22_5 hO.1 rfl (by first | assumption | exact hwf _ _ | exact dt_b32 _ | omega | exact ⟨by omega, by omega⟩ | decide | exact ⟨by simp (disch := omega) only [dt_up_s, dt_up_k, dt_up_n]; omega, by simp (disch := omega) only [dt_up_s, dt_up_k, dt_up_n]; omega⟩) ?_
    refine dt_vret dX10_leave_29 rfl (by decide) (by decide) ?_
    exact ⟨rfl, rfl, fun b k a c => by rw [dt_up_ne (by omega), dt_up_n (by omega)], hT.app⟩
theorem s_leave_0 {sh : List dt_Shp} {σ : dt_Mem} {w : Nat} {l : List Int} {x : Int} (hO : wO sh w 0) (hT : wT σ w l) (hl : l.length < 16) (hx : dt_in32 x) : dt_Sp mX10_leave 0 0 0 [dt_R w, dt_I x] sh σ (fun v sh2 σ2 => v = none ∧ sh2 = sh ∧ wG w σ σ2 ∧ wT σ2 w (l ++ [x])) := by
  refine dt_Sp_of (by decide) (Nat.le_of_ble_eq_true rfl) ?_
  refine dt_wfV fun hwf => ?_
  have h3 := hT.1
  show dt_V _ _ _ 0 0 0 [some (dt_R w), some (dt_I x)] [] _ _
  refine dt_aloadn dX10_leave_0 rfl rfl ?_
  refine dt_getI dX10_leave_1 pg_X10_22_0 hO.1 rfl ?_
  refine dt_bipush dX10_leave_4 (by decide) ?_
  refine dt_cm_ge (tgt := 29) dX10_leave_6 (by decide) (by first | assumption | exact hwf _ _ | exact dt_b32 _ | omega | exact ⟨by omega, by omega⟩ | decide | exact ⟨by simp (disch := omega) only [dt_up_s, dt_up_k, dt_up_n]; omega, by simp (disch := omega) only [dt_up_s, dt_up_k, dt_up_n]; omega⟩) (by first | assumption | exact hwf _ _ | exact dt_b32 _ | omega | exact ⟨by omega, by omega⟩ | decide | exact ⟨by simp (disch := omega) only [dt_up_s, dt_up_k, dt_up_n]; omega, by simp (disch := omega) only [dt_up_s, dt_up_k, dt_up_n]; omega⟩) (fun c1 => ?_) (fun c1 => ?_)
  · skip
    first | exact absurd c1 (by omega) | exact absurd c1 (by decide) | exact absurd rfl c1
  · skip
    refine dt_aloadn dX10_leave_9 rfl rfl ?_
    refine dt_getR dX10_leave_10 pg_X10_18_0 hO.1 rfl ?_
    refine dt_aloadn dX10_leave_13 rfl rfl ?_
    refine dt_getI dX10_leave_14 pg_X10_22_0 hO.1 rfl ?_
    rw [h3]
    refine dt_iloadn dX10_leave_17 rfl rfl ?_
    refine dt_wfV fun hwf => ?_
    refine dt_iast dX10_leave_18 hO.2 (by first | omega | (simp (disch := omega) only [dt_up_s, dt_up_k, dt_up_n]; omega)) (by first | omega | (simp (disch := omega) only [dt_up_s, dt_up_k, dt_up_n]; omega)) (by decide) (by first | assumption | exact hwf _ _ | exact dt_b32 _ | omega | exact ⟨by omega, by omega⟩ | decide | exact ⟨by simp (disch := omega) only [dt_up_s, dt_up_k, dt_up_n]; omega, by simp (disch := omega) only [dt_up_s, dt_up_k, dt_up_n]; omega⟩) ?_
    rw [Int.toNat_natCast]
    refine dt_aloadn dX10_leave_19 rfl rfl ?_
    refine dt_dupR dX10_leave_20 ?_
    refine dt_getI dX10_leave_21 pg_X10_22_0 hO.1 rfl ?_
    rw [dt_up_n (by omega), h3]
    refine dt_iconst dX10_leave_24 ?_
    refine dt_iadd dX10_leave_25 ?_
    refine dt_wfV fun hwf => ?_
    refine dt_putI dX10_leave_26 pw_X10_22_0 hO.1 rfl (by first | assumption | exact hwf _ _ | exact dt_b32 _ | omega | exact ⟨by omega, by omega⟩ | decide | exact ⟨by simp (disch := omega) only [dt_up_s, dt_up_k, dt_up_n]; omega, by simp (disch := omega) only [dt_up_s, dt_up_k, dt_up_n]; omega⟩) ?_
    refine dt_vret dX10_leave_29 rfl (by decide) (by decide) ?_
    exact ⟨rfl, rfl, fun b k a c => by rw [dt_up_ne (by omega), dt_up_n (by omega)], hT.app⟩
theorem s_leave_2 {sh : List dt_Shp} {σ : dt_Mem} {w : Nat} {l : List Int} {x : Int} (hO : wO sh w 2) (hT : wT σ w l) (hl : l.length < 16) (hx : dt_in32 x) : dt_Sp mX10_leave 0 0 0 [dt_R w, dt_I x] sh σ (fun v sh2 σ2 => v = none ∧ sh2 = sh ∧ wG w σ σ2 ∧ wT σ2 w (l ++ [x])) := by
  refine dt_Sp_of (by decide) (Nat.le_of_ble_eq_true rfl) ?_
  refine dt_wfV fun hwf => ?_
  have h3 := hT.1
  show dt_V _ _ _ 0 0 0 [some (dt_R w), some (dt_I x)] [] _ _
  refine dt_aloadn dX10_leave_0 rfl rfl ?_
  refine dt_getI dX10_leave_1 pg_X10_22_2 hO.1 rfl ?_
  refine dt_bipush dX10_leave_4 (by decide) ?_
  refine dt_cm_ge (tgt := 29) dX10_leave_6 (by decide) (by first | assumption | exact hwf _ _ | exact dt_b32 _ | omega | exact ⟨by omega, by omega⟩ | decide | exact ⟨by simp (disch := omega) only [dt_up_s, dt_up_k, dt_up_n]; omega, by simp (disch := omega) only [dt_up_s, dt_up_k, dt_up_n]; omega⟩) (by first | assumption | exact hwf _ _ | exact dt_b32 _ | omega | exact ⟨by omega, by omega⟩ | decide | exact ⟨by simp (disch := omega) only [dt_up_s, dt_up_k, dt_up_n]; omega, by simp (disch := omega) only [dt_up_s, dt_up_k, dt_up_n]; omega⟩) (fun c1 => ?_) (fun c1 => ?_)
  · skip
    first | exact absurd c1 (by omega) | exact absurd c1 (by decide) | exact absurd rfl c1
  · skip
    refine dt_aloadn dX10_leave_9 rfl rfl ?_
    refine dt_getR dX10_leave_10 pg_X10_18_2 hO.1 rfl ?_
    refine dt_aloadn dX10_leave_13 rfl rfl ?_
    refine dt_getI dX10_leave_14 pg_X10_22_2 hO.1 rfl ?_
    rw [h3]
    refine dt_iloadn dX10_leave_17 rfl rfl ?_
    refine dt_wfV fun hwf => ?_
    refine dt_iast dX10_leave_18 hO.2 (by first | omega | (simp (disch := omega) only [dt_up_s, dt_up_k, dt_up_n]; omega)) (by first | omega | (simp (disch := omega) only [dt_up_s, dt_up_k, dt_up_n]; omega)) (by decide) (by first | assumption | exact hwf _ _ | exact dt_b32 _ | omega | exact ⟨by omega, by omega⟩ | decide | exact ⟨by simp (disch := omega) only [dt_up_s, dt_up_k, dt_up_n]; omega, by simp (disch := omega) only [dt_up_s, dt_up_k, dt_up_n]; omega⟩) ?_
    rw [Int.toNat_natCast]
    refine dt_aloadn dX10_leave_19 rfl rfl ?_
    refine dt_dupR dX10_leave_20 ?_
    refine dt_getI dX10_leave_21 pg_X10_22_2 hO.1 rfl ?_
    rw [dt_up_n (by omega), h3]
    refine dt_iconst dX10_leave_24 ?_
    refine dt_iadd dX10_leave_25 ?_
    refine dt_wfV fun hwf => ?_
    refine dt_putI dX10_leave_26 pw_X10_22_2 hO.1 rfl (by first | assumption | exact hwf _ _ | exact dt_b32 _ | omega | exact ⟨by omega, by omega⟩ | decide | exact ⟨by simp (disch := omega) only [dt_up_s, dt_up_k, dt_up_n]; omega, by simp (disch := omega) only [dt_up_s, dt_up_k, dt_up_n]; omega⟩) ?_
    refine dt_vret dX10_leave_29 rfl (by decide) (by decide) ?_
    exact ⟨rfl, rfl, fun b k a c => by rw [dt_up_ne (by omega), dt_up_n (by omega)], hT.app⟩
theorem s_leave_1 {sh : List dt_Shp} {σ : dt_Mem} {w : Nat} {l : List Int} {x : Int} (hO : wO sh w 1) (hT : wT σ w l) (hl : l.length < 16) (hx : dt_in32 x) : dt_Sp mX10_leave 0 0 0 [dt_R w, dt_I x] sh σ (fun v sh2 σ2 => v = none ∧ sh2 = sh ∧ wG w σ σ2 ∧ wT σ2 w (l ++ [x])) := by
  refine dt_Sp_of (by decide) (Nat.le_of_ble_eq_true rfl) ?_
  refine dt_wfV fun hwf => ?_
  have h3 := hT.1
  show dt_V _ _ _ 0 0 0 [some (dt_R w), some (dt_I x)] [] _ _
  refine dt_aloadn dX10_leave_0 rfl rfl ?_
  refine dt_getI dX10_leave_1 pg_X10_22_1 hO.1 rfl ?_
  refine dt_bipush dX10_leave_4 (by decide) ?_
  refine dt_cm_ge (tgt := 29) dX10_leave_6 (by decide) (by first | assumption | exact hwf _ _ | exact dt_b32 _ | omega | exact ⟨by omega, by omega⟩ | decide | exact ⟨by simp (disch := omega) only [dt_up_s, dt_up_k, dt_up_n]; omega, by simp (disch := omega) only [dt_up_s, dt_up_k, dt_up_n]; omega⟩) (by first | assumption | exact hwf _ _ | exact dt_b32 _ | omega | exact ⟨by omega, by omega⟩ | decide | exact ⟨by simp (disch := omega) only [dt_up_s, dt_up_k, dt_up_n]; omega, by simp (disch := omega) only [dt_up_s, dt_up_k, dt_up_n]; omega⟩) (fun c1 => ?_) (fun c1 => ?_)
  · skip
    first | exact absurd c1 (by omega) | exact absurd c1 (by decide) | exact absurd rfl c1
  · skip
    refine dt_aloadn dX10_leave_9 rfl rfl ?_
    refine dt_getR dX10_leave_10 pg_X10_18_1 hO.1 rfl ?_
    refine dt_aloadn dX10_leave_13 rfl rfl ?_
    refine dt_getI dX10_leave_14 pg_X10_22_1 hO.1 rfl ?_
    rw [h3]
    refine dt_iloadn dX10_leave_17 rfl rfl ?_
    refine dt_wfV fun hwf => ?_
    refine dt_iast dX10_leave_18 hO.2 (by first | omega | (simp (disch := omega) only [dt_up_s, dt_up_k, dt_up_n]; omega)) (by first | omega | (simp (disch := omega) only [dt_up_s, dt_up_k, dt_up_n]; omega)) (by decide) (by first | assumption | exact hwf _ _ | exact dt_b32 _ | omega | exact ⟨by omega, by omega⟩ | decide | exact ⟨by simp (disch := omega) only [dt_up_s, dt_up_k, dt_up_n]; omega, by simp (disch := omega) only [dt_up_s, dt_up_k, dt_up_n]; omega⟩) ?_
    rw [Int.toNat_natCast]
    refine dt_aloadn dX10_leave_19 rfl rfl ?_
    refine dt_dupR dX10_leave_20 ?_
    refine dt_getI dX10_leave_21 pg_X10_22_1 hO.1 rfl ?_
    rw [dt_up_n (by omega), h3]
    refine dt_iconst dX10_leave_24 ?_
    refine dt_iadd dX10_leave_25 ?_
    refine dt_wfV fun hwf => ?_
    refine dt_putI dX10_leave_26 pw_X10_22_1 hO.1 rfl (by first | assumption | exact hwf _ _ | exact dt_b32 _ | omega | exact ⟨by omega, by omega⟩ | decide | exact ⟨by simp (disch := omega) only [dt_up_s, dt_up_k, dt_up_n]; omega, by simp (disch := omega) only [dt_up_s, dt_up_k, dt_up_n]; omega⟩) ?_
    refine dt_vret dX10_leave_29 rfl (by decide) (by decide) ?_
    exact ⟨rfl, rfl, fun b k a c => by rw [dt_up_ne (by omega), dt_up_n (by omega)], hT.app⟩
theorem s_leave_3 {sh : List dt_Shp} {σ : dt_Mem} {w : Nat} {l : List Int} {x : Int} (hO : wO sh w 3) (hT : wT σ w l) (hl : l.length < 16) (hx : dt_in32 x) : dt_Sp mX10_leave 0 0 0 [dt_R w, dt_I x] sh σ (fun v sh2 σ2 => v = none ∧ sh2 = sh ∧ wG w σ σ2 ∧ wT σ2 w (l ++ [x])) := by
  refine dt_Sp_of (by decide) (Nat.le_of_ble_eq_true rfl) ?_
  refine dt_wfV fun hwf => ?_
  have h3 := hT.1
  show dt_V _ _ _ 0 0 0 [some (dt_R w), some (dt_I x)] [] _ _
  refine dt_aloadn dX10_leave_0 rfl rfl ?_
  refine dt_getI dX10_leave_1 pg_X10_22_3 hO.1 rfl ?_
  refine dt_bipush dX10_leave_4 (by decide) ?_
  refine dt_cm_ge (tgt := 29) dX10_leave_6 (by decide) (by first | assumption | exact hwf _ _ | exact dt_b32 _ | omega | exact ⟨by omega, by omega⟩ | decide | exact ⟨by simp (disch := omega) only [dt_up_s, dt_up_k, dt_up_n]; omega, by simp (disch := omega) only [dt_up_s, dt_up_k, dt_up_n]; omega⟩) (by first | assumption | exact hwf _ _ | exact dt_b32 _ | omega | exact ⟨by omega, by omega⟩ | decide | exact ⟨by simp (disch := omega) only [dt_up_s, dt_up_k, dt_up_n]; omega, by simp (disch := omega) only [dt_up_s, dt_up_k, dt_up_n]; omega⟩) (fun c1 => ?_) (fun c1 => ?_)
  · skip
    first | exact absurd c1 (by omega) | exact absurd c1 (by decide) | exact absurd rfl c1
  · skip
    refine dt_aloadn dX10_leave_9 rfl rfl ?_
    refine dt_getR dX10_leave_10 pg_X10_18_3 hO.1 rfl ?_
    refine dt_aloadn dX10_leave_13 rfl rfl ?_
    refine dt_getI dX10_leave_14 pg_X10_22_3 hO.1 rfl ?_
    rw [h3]
    refine dt_iloadn dX10_leave_17 rfl rfl ?_
    refine dt_wfV fun hwf => ?_
    refine dt_iast dX10_leave_18 hO.2 (by first | omega | (simp (disch := omega) only [dt_up_s, dt_up_k, dt_up_n]; omega)) (by first | omega | (simp (disch := omega) only [dt_up_s, dt_up_k, dt_up_n]; omega)) (by decide) (by first | assumption | exact hwf _ _ | exact dt_b32 _ | omega | exact ⟨by omega, by omega⟩ | decide | exact ⟨by simp (disch := omega) only [dt_up_s, dt_up_k, dt_up_n]; omega, by simp (disch := omega) only [dt_up_s, dt_up_k, dt_up_n]; omega⟩) ?_
    rw [Int.toNat_natCast]
    refine dt_aloadn dX10_leave_19 rfl rfl ?_
    refine dt_dupR dX10_leave_20 ?_
    refine dt_getI dX10_leave_21 pg_X10_22_3 hO.1 rfl ?_
    rw [dt_up_n (by omega), h3]
    refine dt_iconst dX10_leave_24 ?_
    refine dt_iadd dX10_leave_25 ?_
    refine dt_wfV fun hwf => ?_
    refine dt_putI dX10_leave_26 pw_X10_22_3 hO.1 rfl (by first | assumption | exact hwf _ _ | exact dt_b32 _ | omega | exact ⟨by omega, by omega⟩ | decide | exact ⟨by simp (disch := omega) only [dt_up_s, dt_up_k, dt_up_n]; omega, by simp (disch := omega) only [dt_up_s, dt_up_k, dt_up_n]; omega⟩) ?_
    refine dt_vret dX10_leave_29 rfl (by decide) (by decide) ?_
    exact ⟨rfl, rfl, fun b k a c => by rw [dt_up_ne (by omega), dt_up_n (by omega)], hT.app⟩
theorem s_X10_mark_5 {sh : List dt_Shp} {σ : dt_Mem} {w : Nat} {l : List Int} (hO : wO sh w 5) (hT : wT σ w l) (hl : l.length + 1 ≤ 15) : dt_Sp mX10_mark 1 0 0 [dt_R w] sh σ (fun v sh2 σ2 => v = some (dt_I (σ w 0)) ∧ sh2 = sh ∧ wG w σ σ2 ∧ wT σ2 w (l ++ [20])) := by
  refine dt_Sp_of (by decide) (Nat.le_of_ble_eq_true rfl) ?_
  refine dt_wfV fun hwf => ?_
  have G0 := wG.refl w σ
  show dt_V _ _ _ 0 0 0 [some (dt_R w)] [] _ _
  refine dt_aloadn dX10_mark_0 rfl rfl ?_
  refine dt_bipush dX10_mark_1 (by decide) ?_
  refine dt_xO dX10_mark_3 hO.1 rfl pv_X10_25_5 (s_leave_5 hO hT (by first | omega | (simp only [List.length_append, List.length_cons, List.length_nil]; omega)) (by decide)) rfl rfl ⟨by decide, by decide⟩ (Nat.le_of_ble_eq_true rfl) ⟨by decide, by decide⟩ ?_
  intro v1 sh1 σ1 hq1
  obtain ⟨rfl, hs1, hf1, hT1⟩ := hq1
  obtain rfl := hs1.symm
  have G1 := G0.tr hf1
  obtain ⟨a1, b1, c1⟩ := G1.f
  refine dt_aloadn dX10_mark_6 rfl rfl ?_
  refine dt_getI dX10_mark_7 pg_X10_9_5 hO.1 rfl ?_
  refine dt_iret dX10_mark_10 rfl (by decide) (by decide) ?_
  refine ⟨dt_ie ?_, rfl, G1, ?_⟩
  · first | rfl | (simp only [a1, b1, c1]; done)
  · first | exact hT1 | (have z := hT1; simp only [List.append_assoc, List.cons_append, List.nil_append] at z ⊢; exact z)
theorem s_X10_size_5 {sh : List dt_Shp} {σ : dt_Mem} {w : Nat} {l : List Int} (hO : wO sh w 5) (hT : wT σ w l) (hl : l.length + 1 ≤ 15) : dt_Sp mX10_size 1 0 0 [dt_R w] sh σ (fun v sh2 σ2 => v = some (dt_I (σ w 1)) ∧ sh2 = sh ∧ wG w σ σ2 ∧ wT σ2 w (l ++ [10])) := by
  refine dt_Sp_of (by decide) (Nat.le_of_ble_eq_true rfl) ?_
  refine dt_wfV fun hwf => ?_
  have G0 := wG.refl w σ
  show dt_V _ _ _ 0 0 0 [some (dt_R w)] [] _ _
  refine dt_aloadn dX10_size_0 rfl rfl ?_
  refine dt_bipush dX10_size_1 (by decide) ?_
  refine dt_xO dX10_size_3 hO.1 rfl pv_X10_25_5 (s_leave_5 hO hT (by first | omega | (simp only [List.length_append, List.length_cons, List.length_nil]; omega)) (by decide)) rfl rfl ⟨by decide, by decide⟩ (Nat.le_of_ble_eq_true rfl) ⟨by decide, by decide⟩ ?_
  intro v1 sh1 σ1 hq1
  obtain ⟨rfl, hs1, hf1, hT1⟩ := hq1
  obtain rfl := hs1.symm
  have G1 := G0.tr hf1
  obtain ⟨a1, b1, c1⟩ := G1.f
  refine dt_aloadn dX10_size_6 rfl rfl ?_
  refine dt_getI dX10_size_7 pg_X10_15_5 hO.1 rfl ?_
  refine dt_iret dX10_size_10 rfl (by decide) (by decide) ?_
  refine ⟨dt_ie ?_, rfl, G1, ?_⟩
  · first | rfl | (simp only [a1, b1, c1]; done)
  · first | exact hT1 | (have z := hT1; simp only [List.append_assoc, List.cons_append, List.nil_append] at z ⊢; exact z)
theorem s_X5_mark_5 {sh : List dt_Shp} {σ : dt_Mem} {w : Nat} {l : List Int} (hO : wO sh w 5) (hT : wT σ w l) (hl : l.length + 2 ≤ 15) : dt_Sp mX5_mark 2 0 0 [dt_R w] sh σ (fun v sh2 σ2 => v = some (dt_I (σ w 0 + σ w 4)) ∧ sh2 = sh ∧ wG w σ σ2 ∧ wT σ2 w (l ++ [21, 20])) := by
  refine dt_Sp_of (by decide) (Nat.le_of_ble_eq_true rfl) ?_
  refine dt_wfV fun hwf => ?_
  have G0 := wG.refl w σ
  show dt_V _ _ _ 0 0 0 [some (dt_R w)] [] _ _
  refine dt_aloadn dX5_mark_0 rfl rfl ?_
  refine dt_bipush dX5_mark_1 (by decide) ?_
  refine dt_xO dX5_mark_3 hO.1 rfl pv_X5_13_5 (s_leave_5 hO hT (by first | omega | (simp only [List.length_append, List.length_cons, List.length_nil]; omega)) (by decide)) rfl rfl ⟨by decide, by decide⟩ (Nat.le_of_ble_eq_true rfl) ⟨by decide, by decide⟩ ?_
  intro v1 sh1 σ1 hq1
  obtain ⟨rfl, hs1, hf1, hT1⟩ := hq1
  obtain rfl := hs1.symm
  have G1 := G0.tr hf1
  obtain ⟨a1, b1, c1⟩ := G1.f
  refine dt_aloadn dX5_mark_6 rfl rfl ?_
  refine dt_xSU dX5_mark_7 hO.1 rfl pu_X5_24 (s_X10_mark_5 hO hT1 (by first | omega | (simp only [List.length_append, List.length_cons, List.length_nil]; omega))) rfl rfl ⟨by decide, by decide⟩ (Nat.le_of_ble_eq_true rfl) ⟨by decide, by decide⟩ ?_
  intro v2 sh2 σ2 hq2
  obtain ⟨rfl, hs2, hf2, hT2⟩ := hq2
  obtain rfl := hs2.symm
  have G2 := G1.tr hf2
  obtain ⟨a2, b2, c2⟩ := G2.f
  refine dt_aloadn dX5_mark_10 rfl rfl ?_
  refine dt_getI dX5_mark_11 pg_X5_7_5 hO.1 rfl ?_
  refine dt_iadd dX5_mark_14 ?_
  refine dt_iret dX5_mark_15 rfl (by decide) (by decide) ?_
  refine ⟨dt_ie ?_, rfl, G2, ?_⟩
  · first | rfl | (simp only [a1, b1, c1, a2, b2, c2]; done)
  · first | exact hT2 | (have z := hT2; simp only [List.append_assoc, List.cons_append, List.nil_append] at z ⊢; exact z)
theorem s_X5_size_5 {sh : List dt_Shp} {σ : dt_Mem} {w : Nat} {l : List Int} (hO : wO sh w 5) (hT : wT σ w l) (hl : l.length + 4 ≤ 15) : dt_Sp mX5_size 5 0 0 [dt_R w] sh σ (fun v sh2 σ2 => v = some (dt_I (σ w 1 + (σ w 0 + σ w 4))) ∧ sh2 = sh ∧ wG w σ σ2 ∧ wT σ2 w (l ++ [11, 10, 21, 20])) := by
  refine dt_Sp_of (by decide) (Nat.le_of_ble_eq_true rfl) ?_
  refine dt_wfV fun hwf => ?_
  have G0 := wG.refl w σ
  show dt_V _ _ _ 0 0 0 [some (dt_R w)] [] _ _
  refine dt_aloadn dX5_size_0 rfl rfl ?_
  refine dt_bipush dX5_size_1 (by decide) ?_
  refine dt_xO dX5_size_3 hO.1 rfl pv_X5_13_5 (s_leave_5 hO hT (by first | omega | (simp only [List.length_append, List.length_cons, List.length_nil]; omega)) (by decide)) rfl rfl ⟨by decide, by decide⟩ (Nat.le_of_ble_eq_true rfl) ⟨by decide, by decide⟩ ?_
  intro v1 sh1 σ1 hq1
  obtain ⟨rfl, hs1, hf1, hT1⟩ := hq1
  obtain rfl := hs1.symm
  have G1 := G0.tr hf1
  obtain ⟨a1, b1, c1⟩ := G1.f
  refine dt_aloadn dX5_size_6 rfl rfl ?_
  refine dt_xSU dX5_size_7 hO.1 rfl pu_X5_17 (s_X10_size_5 hO hT1 (by first | omega | (simp only [List.length_append, List.length_cons, List.length_nil]; omega))) rfl rfl ⟨by decide, by decide⟩ (Nat.le_of_ble_eq_true rfl) ⟨by decide, by decide⟩ ?_
  intro v2 sh2 σ2 hq2
  obtain ⟨rfl, hs2, hf2, hT2⟩ := hq2
  obtain rfl := hs2.symm
  have G2 := G1.tr hf2
  obtain ⟨a2, b2, c2⟩ := G2.f
  refine dt_aloadn dX5_size_10 rfl rfl ?_
  refine dt_xO dX5_size_11 hO.1 rfl pv_X5_21_5 (s_X5_mark_5 hO hT2 (by first | omega | (simp only [List.length_append, List.length_cons, List.length_nil]; omega))) rfl rfl ⟨by decide, by decide⟩ (Nat.le_of_ble_eq_true rfl) ⟨by decide, by decide⟩ ?_
  intro v3 sh3 σ3 hq3
  obtain ⟨rfl, hs3, hf3, hT3⟩ := hq3
  obtain rfl := hs3.symm
  have G3 := G2.tr hf3
  obtain ⟨a3, b3, c3⟩ := G3.f
  refine dt_iadd dX5_size_14 ?_
  refine dt_iret dX5_size_15 rfl (by decide) (by decide) ?_
  refine ⟨dt_ie ?_, rfl, G3, ?_⟩
  · first | rfl | (simp only [a1, b1, c1, a2, b2, c2, a3, b3, c3]; done)
  · first | exact hT3 | (have z := hT3; simp only [List.append_assoc, List.cons_append, List.nil_append] at z ⊢; exact z)
theorem s_X10_mark_0 {sh : List dt_Shp} {σ : dt_Mem} {w : Nat} {l : List Int} (hO : wO sh w 0) (hT : wT σ w l) (hl : l.length + 1 ≤ 15) : dt_Sp mX10_mark 1 0 0 [dt_R w] sh σ (fun v sh2 σ2 => v = some (dt_I (σ w 0)) ∧ sh2 = sh ∧ wG w σ σ2 ∧ wT σ2 w (l ++ [20])) := by
  refine dt_Sp_of (by decide) (Nat.le_of_ble_eq_true rfl) ?_
  refine dt_wfV fun hwf => ?_
  have G0 := wG.refl w σ
  show dt_V _ _ _ 0 0 0 [some (dt_R w)] [] _ _
  refine dt_aloadn dX10_mark_0 rfl rfl ?_
  refine dt_bipush dX10_mark_1 (by decide) ?_
  refine dt_xO dX10_mark_3 hO.1 rfl pv_X10_25_0 (s_leave_0 hO hT (by first | omega | (simp only [List.length_append, List.length_cons, List.length_nil]; omega)) (by decide)) rfl rfl ⟨by decide, by decide⟩ (Nat.le_of_ble_eq_true rfl) ⟨by decide, by decide⟩ ?_
  intro v1 sh1 σ1 hq1
  obtain ⟨rfl, hs1, hf1, hT1⟩ := hq1
  obtain rfl := hs1.symm
  have G1 := G0.tr hf1
  obtain ⟨a1, b1, c1⟩ := G1.f
  refine dt_aloadn dX10_mark_6 rfl rfl ?_
  refine dt_getI dX10_mark_7 pg_X10_9_0 hO.1 rfl ?_
  refine dt_iret dX10_mark_10 rfl (by decide) (by decide) ?_
  refine ⟨dt_ie ?_, rfl, G1, ?_⟩
  · first | rfl | (simp only [a1, b1, c1]; done)
  · first | exact hT1 | (have z := hT1; simp only [List.append_assoc, List.cons_append, List.nil_append] at z ⊢; exact z)
theorem s_X10_size_0 {sh : List dt_Shp} {σ : dt_Mem} {w : Nat} {l : List Int} (hO : wO sh w 0) (hT : wT σ w l) (hl : l.length + 1 ≤ 15) : dt_Sp mX10_size 1 0 0 [dt_R w] sh σ (fun v sh2 σ2 => v = some (dt_I (σ w 1)) ∧ sh2 = sh ∧ wG w σ σ2 ∧ wT σ2 w (l ++ [10])) := by
  refine dt_Sp_of (by decide) (Nat.le_of_ble_eq_true rfl) ?_
  refine dt_wfV fun hwf => ?_
  have G0 := wG.refl w σ
  show dt_V _ _ _ 0 0 0 [some (dt_R w)] [] _ _
  refine dt_aloadn dX10_size_0 rfl rfl ?_
  refine dt_bipush dX10_size_1 (by decide) ?_
  refine dt_xO dX10_size_3 hO.1 rfl pv_X10_25_0 (s_leave_0 hO hT (by first | omega | (simp only [List.length_append, List.length_cons, List.length_nil]; omega)) (by decide)) rfl rfl ⟨by decide, by decide⟩ (Nat.le_of_ble_eq_true rfl) ⟨by decide, by decide⟩ ?_
  intro v1 sh1 σ1 hq1
  obtain ⟨rfl, hs1, hf1, hT1⟩ := hq1
  obtain rfl := hs1.symm
  have G1 := G0.tr hf1
  obtain ⟨a1, b1, c1⟩ := G1.f
  refine dt_aloadn dX10_size_6 rfl rfl ?_
  refine dt_getI dX10_size_7 pg_X10_15_0 hO.1 rfl ?_
  refine dt_iret dX10_size_10 rfl (by decide) (by decide) ?_
  refine ⟨dt_ie ?_, rfl, G1, ?_⟩
  · first | rfl | (simp only [a1, b1, c1]; done)
  · first | exact hT1 | (have z := hT1; simp only [List.append_assoc, List.cons_append, List.nil_append] at z ⊢; exact z)
theorem s_X5_mark_0 {sh : List dt_Shp} {σ : dt_Mem} {w : Nat} {l : List Int} (hO : wO sh w 0) (hT : wT σ w l) (hl : l.length + 2 ≤ 15) : dt_Sp mX5_mark 2 0 0 [dt_R w] sh σ (fun v sh2 σ2 => v = some (dt_I (σ w 0 + σ w 4)) ∧ sh2 = sh ∧ wG w σ σ2 ∧ wT σ2 w (l ++ [21, 20])) := by
  refine dt_Sp_of (by decide) (Nat.le_of_ble_eq_true rfl) ?_
  refine dt_wfV fun hwf => ?_
  have G0 := wG.refl w σ
  show dt_V _ _ _ 0 0 0 [some (dt_R w)] [] _ _
  refine dt_aloadn dX5_mark_0 rfl rfl ?_
  refine dt_bipush dX5_mark_1 (by decide) ?_
  refine dt_xO dX5_mark_3 hO.1 rfl pv_X5_13_0 (s_leave_0 hO hT (by first | omega | (simp only [List.length_append, List.length_cons, List.length_nil]; omega)) (by decide)) rfl rfl ⟨by decide, by decide⟩ (Nat.le_of_ble_eq_true rfl) ⟨by decide, by decide⟩ ?_
  intro v1 sh1 σ1 hq1
  obtain ⟨rfl, hs1, hf1, hT1⟩ := hq1
  obtain rfl := hs1.symm
  have G1 := G0.tr hf1
  obtain ⟨a1, b1, c1⟩ := G1.f
  refine dt_aloadn dX5_mark_6 rfl rfl ?_
  refine dt_xSU dX5_mark_7 hO.1 rfl pu_X5_24 (s_X10_mark_0 hO hT1 (by first | omega | (simp only [List.length_append, List.length_cons, List.length_nil]; omega))) rfl rfl ⟨by decide, by decide⟩ (Nat.le_of_ble_eq_true rfl) ⟨by decide, by decide⟩ ?_
  intro v2 sh2 σ2 hq2
  obtain ⟨rfl, hs2, hf2, hT2⟩ := hq2
  obtain rfl := hs2.symm
  have G2 := G1.tr hf2
  obtain ⟨a2, b2, c2⟩ := G2.f
  refine dt_aloadn dX5_mark_10 rfl rfl ?_
  refine dt_getI dX5_mark_11 pg_X5_7_0 hO.1 rfl ?_
  refine dt_iadd dX5_mark_14 ?_
  refine dt_iret dX5_mark_15 rfl (by decide) (by decide) ?_
  refine ⟨dt_ie ?_, rfl, G2, ?_⟩
  · first | rfl | (simp only [a1, b1, c1, a2, b2, c2]; done)
  · first | exact hT2 | (have z := hT2; simp only [List.append_assoc, List.cons_append, List.nil_append] at z ⊢; exact z)
theorem s_X0_mark_0 {sh : List dt_Shp} {σ : dt_Mem} {w : Nat} {l : List Int} (hO : wO sh w 0) (hT : wT σ w l) (hl : l.length + 3 ≤ 15) : dt_Sp mX0_mark 3 0 0 [dt_R w] sh σ (fun v sh2 σ2 => v = some (dt_I (σ w 0 + σ w 4 + 1000)) ∧ sh2 = sh ∧ wG w σ σ2 ∧ wT σ2 w (l ++ [22, 21, 20])) := by
  refine dt_Sp_of (by decide) (Nat.le_of_ble_eq_true rfl) ?_
  refine dt_wfV fun hwf => ?_
  have G0 := wG.refl w σ
  show dt_V _ _ _ 0 0 0 [some (dt_R w)] [] _ _
  refine dt_aloadn dX0_mark_0 rfl rfl ?_
  refine dt_bipush dX0_mark_1 (by decide) ?_
  refine dt_xO dX0_mark_3 hO.1 rfl pv_X0_7_0 (s_leave_0 hO hT (by first | omega | (simp only [List.length_append, List.length_cons, List.length_nil]; omega)) (by decide)) rfl rfl ⟨by decide, by decide⟩ (Nat.le_of_ble_eq_true rfl) ⟨by decide, by decide⟩ ?_
  intro v1 sh1 σ1 hq1
  obtain ⟨rfl, hs1, hf1, hT1⟩ := hq1
  obtain rfl := hs1.symm
  have G1 := G0.tr hf1
  obtain ⟨a1, b1, c1⟩ := G1.f
  refine dt_aloadn dX0_mark_6 rfl rfl ?_
  refine dt_xSU dX0_mark_7 hO.1 rfl pu_X0_13 (s_X5_mark_0 hO hT1 (by first | omega | (simp only [List.length_append, List.length_cons, List.length_nil]; omega))) rfl rfl ⟨by decide, by decide⟩ (Nat.le_of_ble_eq_true rfl) ⟨by decide, by decide⟩ ?_
  intro v2 sh2 σ2 hq2
  obtain ⟨rfl, hs2, hf2, hT2⟩ := hq2
  obtain rfl := hs2.symm
  have G2 := G1.tr hf2
  obtain ⟨a2, b2, c2⟩ := G2.f
  refine dt_sipush dX0_mark_10 (by decide) ?_
  refine dt_iadd dX0_mark_13 ?_
  refine dt_iret dX0_mark_14 rfl (by decide) (by decide) ?_
  refine ⟨dt_ie ?_, rfl, G2, ?_⟩
  · first | rfl | (simp only [a1, b1, c1, a2, b2, c2]; done)
  · first | exact hT2 | (have z := hT2; simp only [List.append_assoc, List.cons_append, List.nil_append] at z ⊢; exact z)
theorem s_X5_size_0 {sh : List dt_Shp} {σ : dt_Mem} {w : Nat} {l : List Int} (hO : wO sh w 0) (hT : wT σ w l) (hl : l.length + 5 ≤ 15) : dt_Sp mX5_size 5 0 0 [dt_R w] sh σ (fun v sh2 σ2 => v = some (dt_I (σ w 1 + (σ w 0 + σ w 4 + 1000))) ∧ sh2 = sh ∧ wG w σ σ2 ∧ wT σ2 w (l ++ [11, 10, 22, 21, 20])) := by
  refine dt_Sp_of (by decide) (Nat.le_of_ble_eq_true rfl) ?_
  refine dt_wfV fun hwf => ?_
  have G0 := wG.refl w σ
  show dt_V _ _ _ 0 0 0 [some (dt_R w)] [] _ _
  refine dt_aloadn dX5_size_0 rfl rfl ?_
  refine dt_bipush dX5_size_1 (by decide) ?_
  refine dt_xO dX5_size_3 hO.1 rfl pv_X5_13_0 (s_leave_0 hO hT (by first | omega | (simp only [List.length_append, List.length_cons, List.length_nil]; omega)) (by decide)) rfl rfl ⟨by decide, by decide⟩ (Nat.le_of_ble_eq_true rfl) ⟨by decide, by decide⟩ ?_
  intro v1 sh1 σ1 hq1
  obtain ⟨rfl, hs1, hf1, hT1⟩ := hq1
  obtain rfl := hs1.symm
  have G1 := G0.tr hf1
  obtain ⟨a1, b1, c1⟩ := G1.f
  refine dt_aloadn dX5_size_6 rfl rfl ?_
  refine dt_xSU dX5_size_7 hO.1 rfl pu_X5_17 (s_X10_size_0 hO hT1 (by first | omega | (simp only [List.length_append, List.length_cons, List.length_nil]; omega))) rfl rfl ⟨by decide, by decide⟩ (Nat.le_of_ble_eq_true rfl) ⟨by decide, by decide⟩ ?_
  intro v2 sh2 σ2 hq2
  obtain ⟨rfl, hs2, hf2, hT2⟩ := hq2
  obtain rfl := hs2.symm
  have G2 := G1.tr hf2
  obtain ⟨a2, b2, c2⟩ := G2.f
  refine dt_aloadn dX5_size_10 rfl rfl ?_
  refine dt_xO dX5_size_11 hO.1 rfl pv_X5_21_0 (s_X0_mark_0 hO hT2 (by first | omega | (simp only [List.length_append, List.length_cons, List.length_nil]; omega))) rfl rfl ⟨by decide, by decide⟩ (Nat.le_of_ble_eq_true rfl) ⟨by decide, by decide⟩ ?_
  intro v3 sh3 σ3 hq3
  obtain ⟨rfl, hs3, hf3, hT3⟩ := hq3
  obtain rfl := hs3.symm
  have G3 := G2.tr hf3
  obtain ⟨a3, b3, c3⟩ := G3.f
  refine dt_iadd dX5_size_14 ?_
  refine dt_iret dX5_size_15 rfl (by decide) (by decide) ?_
  refine ⟨dt_ie ?_, rfl, G3, ?_⟩
  · first | rfl | (simp only [a1, b1, c1, a2, b2, c2, a3, b3, c3]; done)
  · first | exact hT3 | (have z := hT3; simp only [List.append_assoc, List.cons_append, List.nil_append] at z ⊢; exact z)
theorem s_X10_mark_2 {sh : List dt_Shp} {σ : dt_Mem} {w : Nat} {l : List Int} (hO : wO sh w 2) (hT : wT σ w l) (hl : l.length + 1 ≤ 15) : dt_Sp mX10_mark 1 0 0 [dt_R w] sh σ (fun v sh2 σ2 => v = some (dt_I (σ w 0)) ∧ sh2 = sh ∧ wG w σ σ2 ∧ wT σ2 w (l ++ [20])) := by
  refine dt_Sp_of (by decide) (Nat.le_of_ble_eq_true rfl) ?_
  refine dt_wfV fun hwf => ?_
  have G0 := wG.refl w σ
  show dt_V _ _ _ 0 0 0 [some (dt_R w)] [] _ _
  refine dt_aloadn dX10_mark_0 rfl rfl ?_
  refine dt_bipush dX10_mark_1 (by decide) ?_
  refine dt_xO dX10_mark_3 hO.1 rfl pv_X10_25_2 (s_leave_2 hO hT (by first | omega | (simp only [List.length_append, List.length_cons, List.length_nil]; omega)) (by decide)) rfl rfl ⟨by decide, by decide⟩ (Nat.le_of_ble_eq_true rfl) ⟨by decide, by decide⟩ ?_
  intro v1 sh1 σ1 hq1
  obtain ⟨rfl, hs1, hf1, hT1⟩ := hq1
  obtain rfl := hs1.symm
  have G1 := G0.tr hf1
  obtain ⟨a1, b1, c1⟩ := G1.f
  refine dt_aloadn dX10_mark_6 rfl rfl ?_
  refine dt_getI dX10_mark_7 pg_X10_9_2 hO.1 rfl ?_
  refine dt_iret dX10_mark_10 rfl (by decide) (by decide) ?_
  refine ⟨dt_ie ?_, rfl, G1, ?_⟩
  · first | rfl | (simp only [a1, b1, c1]; done)
  · first | exact hT1 | (have z := hT1; simp only [List.append_assoc, List.cons_append, List.nil_append] at z ⊢; exact z)
theorem s_X10_size_2 {sh : List dt_Shp} {σ : dt_Mem} {w : Nat} {l : List Int} (hO : wO sh w 2) (hT : wT σ w l) (hl : l.length + 1 ≤ 15) : dt_Sp mX10_size 1 0 0 [dt_R w] sh σ (fun v sh2 σ2 => v = some (dt_I (σ w 1)) ∧ sh2 = sh ∧ wG w σ σ2 ∧ wT σ2 w (l ++ [10])) := by
  refine dt_Sp_of (by decide) (Nat.le_of_ble_eq_true rfl) ?_
  refine dt_wfV fun hwf => ?_
  have G0 := wG.refl w σ
  show dt_V _ _ _ 0 0 0 [some (dt_R w)] [] _ _
  refine dt_aloadn dX10_size_0 rfl rfl ?_
  refine dt_bipush dX10_size_1 (by decide) ?_
  refine dt_xO dX10_size_3 hO.1 rfl pv_X10_25_2 (s_leave_2 hO hT (by first | omega | (simp only [List.length_append, List.length_cons, List.length_nil]; omega)) (by decide)) rfl rfl ⟨by decide, by decide⟩ (Nat.le_of_ble_eq_true rfl) ⟨by decide, by decide⟩ ?_
  intro v1 sh1 σ1 hq1
  obtain ⟨rfl, hs1, hf1, hT1⟩ := hq1
  obtain rfl := hs1.symm
  have G1 := G0.tr hf1
  obtain ⟨a1, b1, c1⟩ := G1.f
  refine dt_aloadn dX10_size_6 rfl rfl ?_
  refine dt_getI dX10_size_7 pg_X10_15_2 hO.1 rfl ?_
  refine dt_iret dX10_size_10 rfl (by decide) (by decide) ?_
  refine ⟨dt_ie ?_, rfl, G1, ?_⟩
  · first | rfl | (simp only [a1, b1, c1]; done)
  · first | exact hT1 | (have z := hT1; simp only [List.append_assoc, List.cons_append, List.nil_append] at z ⊢; exact z)
theorem s_X5_mark_2 {sh : List dt_Shp} {σ : dt_Mem} {w : Nat} {l : List Int} (hO : wO sh w 2) (hT : wT σ w l) (hl : l.length + 2 ≤ 15) : dt_Sp mX5_mark 2 0 0 [dt_R w] sh σ (fun v sh2 σ2 => v = some (dt_I (σ w 0 + σ w 4)) ∧ sh2 = sh ∧ wG w σ σ2 ∧ wT σ2 w (l ++ [21, 20])) := by
  refine dt_Sp_of (by decide) (Nat.le_of_ble_eq_true rfl) ?_
  refine dt_wfV fun hwf => ?_
  have G0 := wG.refl w σ
  show dt_V _ _ _ 0 0 0 [some (dt_R w)] [] _ _
  refine dt_aloadn dX5_mark_0 rfl rfl ?_
  refine dt_bipush dX5_mark_1 (by decide) ?_
  refine dt_xO dX5_mark_3 hO.1 rfl pv_X5_13_2 (s_leave_2 hO hT (by first | omega | (simp only [List.length_append, List.length_cons, List.length_nil]; omega)) (by decide)) rfl rfl ⟨by decide, by decide⟩ (Nat.le_of_ble_eq_true rfl) ⟨by decide, by decide⟩ ?_
  intro v1 sh1 σ1 hq1
  obtain ⟨rfl, hs1, hf1, hT1⟩ := hq1
  obtain rfl := hs1.symm
  have G1 := G0.tr hf1
  obtain ⟨a1, b1, c1⟩ := G1.f
  refine dt_aloadn dX5_mark_6 rfl rfl ?_
  refine dt_xSU dX5_mark_7 hO.1 rfl pu_X5_24 (s_X10_mark_2 hO hT1 (by first | omega | (simp only [List.length_append, List.length_cons, List.length_nil]; omega))) rfl rfl ⟨by decide, by decide⟩ (Nat.le_of_ble_eq_true rfl) ⟨by decide, by decide⟩ ?_
  intro v2 sh2 σ2 hq2
  obtain ⟨rfl, hs2, hf2, hT2⟩ := hq2
  obtain rfl := hs2.symm
  have G2 := G1.tr hf2
  obtain ⟨a2, b2, c2⟩ := G2.f
  refine dt_aloadn dX5_mark_10 rfl rfl ?_
  refine dt_getI dX5_mark_11 pg_X5_7_2 hO.1 rfl ?_
  refine dt_iadd dX5_mark_14 ?_
  refine dt_iret dX5_mark_15 rfl (by decide) (by decide) ?_
  refine ⟨dt_ie ?_, rfl, G2, ?_⟩
  · first | rfl | (simp only [a1, b1, c1, a2, b2, c2]; done)
  · first | exact hT2 | (have z := hT2; simp only [List.append_assoc, List.cons_append, List.nil_append] at z ⊢; exact z)
theorem s_X0_mark_2 {sh : List dt_Shp} {σ : dt_Mem} {w : Nat} {l : List Int} (hO : wO sh w 2) (hT : wT σ w l) (hl : l.length + 3 ≤ 15) : dt_Sp mX0_mark 3 0 0 [dt_R w] sh σ (fun v sh2 σ2 => v = some (dt_I (σ w 0 + σ w 4 + 1000)) ∧ sh2 = sh ∧ wG w σ σ2 ∧ wT σ2 w (l ++ [22, 21, 20])) := by
  refine dt_Sp_of (by decide) (Nat.le_of_ble_eq_true rfl) ?_
  refine dt_wfV fun hwf => ?_
  have G0 := wG.refl w σ
  show dt_V _ _ _ 0 0 0 [some (dt_R w)] [] _ _
  refine dt_aloadn dX0_mark_0 rfl rfl ?_
  refine dt_bipush dX0_mark_1 (by decide) ?_
  refine dt_xO dX0_mark_3 hO.1 rfl pv_X0_7_2 (s_leave_2 hO hT (by first | omega | (simp only [List.length_append, List.length_cons, List.length_nil]; omega)) (by decide)) rfl rfl ⟨by decide, by decide⟩ (Nat.le_of_ble_eq_true rfl) ⟨by decide, by decide⟩ ?_
  intro v1 sh1 σ1 hq1
  obtain ⟨rfl, hs1, hf1, hT1⟩ := hq1
  obtain rfl := hs1.symm
  have G1 := G0.tr hf1
  obtain ⟨a1, b1, c1⟩ := G1.f
  refine dt_aloadn dX0_mark_6 rfl rfl ?_
  refine dt_xSU dX0_mark_7 hO.1 rfl pu_X0_13 (s_X5_mark_2 hO hT1 (by first | omega | (simp only [List.length_append, List.length_cons, List.length_nil]; omega))) rfl rfl ⟨by decide, by decide⟩ (Nat.le_of_ble_eq_true rfl) ⟨by decide, by decide⟩ ?_
  intro v2 sh2 σ2 hq2
  obtain ⟨rfl, hs2, hf2, hT2⟩ := hq2
  obtain rfl := hs2.symm
  have G2 := G1.tr hf2
  obtain ⟨a2, b2, c2⟩ := G2.f
  refine dt_sipush dX0_mark_10 (by decide) ?_
  refine dt_iadd dX0_mark_13 ?_
  refine dt_iret dX0_mark_14 rfl (by decide) (by decide) ?_
  refine ⟨dt_ie ?_, rfl, G2, ?_⟩
  · first | rfl | (simp only [a1, b1, c1, a2, b2, c2]; done)
  · first | exact hT2 | (have z := hT2; simp only [List.append_assoc, List.cons_append, List.nil_append] at z ⊢; exact z)
theorem s_X2_mark_2 {sh : List dt_Shp} {σ : dt_Mem} {w : Nat} {l : List Int} (hO : wO sh w 2) (hT : wT σ w l) (hl : l.length + 4 ≤ 15) : dt_Sp mX2_mark 4 0 0 [dt_R w] sh σ (fun v sh2 σ2 => v = some (dt_I (2 * (σ w 0 + σ w 4 + 1000))) ∧ sh2 = sh ∧ wG w σ σ2 ∧ wT σ2 w (l ++ [24, 22, 21, 20])) := by
  refine dt_Sp_of (by decide) (Nat.le_of_ble_eq_true rfl) ?_
  refine dt_wfV fun hwf => ?_
  have G0 := wG.refl w σ
  show dt_V _ _ _ 0 0 0 [some (dt_R w)] [] _ _
  refine dt_aloadn dX2_mark_0 rfl rfl ?_
  refine dt_bipush dX2_mark_1 (by decide) ?_
  refine dt_xO dX2_mark_3 hO.1 rfl pv_X2_7_2 (s_leave_2 hO hT (by first | omega | (simp only [List.length_append, List.length_cons, List.length_nil]; omega)) (by decide)) rfl rfl ⟨by decide, by decide⟩ (Nat.le_of_ble_eq_true rfl) ⟨by decide, by decide⟩ ?_
  intro v1 sh1 σ1 hq1
  obtain ⟨rfl, hs1, hf1, hT1⟩ := hq1
  obtain rfl := hs1.symm
  have G1 := G0.tr hf1
  obtain ⟨a1, b1, c1⟩ := G1.f
  refine dt_iconst dX2_mark_6 ?_
  refine dt_aloadn dX2_mark_7 rfl rfl ?_
  refine dt_xSU dX2_mark_8 hO.1 rfl pu_X2_17 (s_X0_mark_2 hO hT1 (by first | omega | (simp only [List.length_append, List.length_cons, List.length_nil]; omega))) rfl rfl ⟨by decide, by decide⟩ (Nat.le_of_ble_eq_true rfl) ⟨by decide, by decide⟩ ?_
  intro v2 sh2 σ2 hq2
  obtain ⟨rfl, hs2, hf2, hT2⟩ := hq2
  obtain rfl := hs2.symm
  have G2 := G1.tr hf2
  obtain ⟨a2, b2, c2⟩ := G2.f
  refine dt_imul dX2_mark_11 ?_
  refine dt_iret dX2_mark_12 rfl (by decide) (by decide) ?_
  refine ⟨dt_ie ?_, rfl, G2, ?_⟩
  · first | rfl | (simp only [a1, b1, c1, a2, b2, c2]; done)
  · first | exact hT2 | (have z := hT2; simp only [List.append_assoc, List.cons_append, List.nil_append] at z ⊢; exact z)
theorem s_X5_size_2 {sh : List dt_Shp} {σ : dt_Mem} {w : Nat} {l : List Int} (hO : wO sh w 2) (hT : wT σ w l) (hl : l.length + 6 ≤ 15) : dt_Sp mX5_size 5 0 0 [dt_R w] sh σ (fun v sh2 σ2 => v = some (dt_I (σ w 1 + (2 * (σ w 0 + σ w 4 + 1000)))) ∧ sh2 = sh ∧ wG w σ σ2 ∧ wT σ2 w (l ++ [11, 10, 24, 22, 21, 20])) := by
  refine dt_Sp_of (by decide) (Nat.le_of_ble_eq_true rfl) ?_
  refine dt_wfV fun hwf => ?_
  have G0 := wG.refl w σ
  show dt_V _ _ _ 0 0 0 [some (dt_R w)] [] _ _
  refine dt_aloadn dX5_size_0 rfl rfl ?_
  refine dt_bipush dX5_size_1 (by decide) ?_
  refine dt_xO dX5_size_3 hO.1 rfl pv_X5_13_2 (s_leave_2 hO hT (by first | omega | (simp only [List.length_append, List.length_cons, List.length_nil]; omega)) (by decide)) rfl rfl ⟨by decide, by decide⟩ (Nat.le_of_ble_eq_true rfl) ⟨by decide, by decide⟩ ?_
  intro v1 sh1 σ1 hq1
  obtain ⟨rfl, hs1, hf1, hT1⟩ := hq1
  obtain rfl := hs1.symm
  have G1 := G0.tr hf1
  obtain ⟨a1, b1, c1⟩ := G1.f
  refine dt_aloadn dX5_size_6 rfl rfl ?_
  refine dt_xSU dX5_size_7 hO.1 rfl pu_X5_17 (s_X10_size_2 hO hT1 (by first | omega | (simp only [List.length_append, List.length_cons, List.length_nil]; omega))) rfl rfl ⟨by decide, by decide⟩ (Nat.le_of_ble_eq_true rfl) ⟨by decide, by decide⟩ ?_
  intro v2 sh2 σ2 hq2
  obtain ⟨rfl, hs2, hf2, hT2⟩ := hq2
  obtain rfl := hs2.symm
  have G2 := G1.tr hf2
  obtain ⟨a2, b2, c2⟩ := G2.f
  refine dt_aloadn dX5_size_10 rfl rfl ?_
  refine dt_xO dX5_size_11 hO.1 rfl pv_X5_21_2 (s_X2_mark_2 hO hT2 (by first | omega | (simp only [List.length_append, List.length_cons, List.length_nil]; omega))) rfl rfl ⟨by decide, by decide⟩ (Nat.le_of_ble_eq_true rfl) ⟨by decide, by decide⟩ ?_
  intro v3 sh3 σ3 hq3
  obtain ⟨rfl, hs3, hf3, hT3⟩ := hq3
  obtain rfl := hs3.symm
  have G3 := G2.tr hf3
  obtain ⟨a3, b3, c3⟩ := G3.f
  refine dt_iadd dX5_size_14 ?_
  refine dt_iret dX5_size_15 rfl (by decide) (by decide) ?_
  refine ⟨dt_ie ?_, rfl, G3, ?_⟩
  · first | rfl | (simp only [a1, b1, c1, a2, b2, c2, a3, b3, c3]; done)
  · first | exact hT3 | (have z := hT3; simp only [List.append_assoc, List.cons_append, List.nil_append] at z ⊢; exact z)
theorem s_X2_size_2 {sh : List dt_Shp} {σ : dt_Mem} {w : Nat} {l : List Int} (hO : wO sh w 2) (hT : wT σ w l) (hl : l.length + 7 ≤ 15) : dt_Sp mX2_size 6 0 0 [dt_R w] sh σ (fun v sh2 σ2 => v = some (dt_I (0 - (σ w 1 + (2 * (σ w 0 + σ w 4 + 1000))))) ∧ sh2 = sh ∧ wG w σ σ2 ∧ wT σ2 w (l ++ [12, 11, 10, 24, 22, 21, 20])) := by
  refine dt_Sp_of (by decide) (Nat.le_of_ble_eq_true rfl) ?_
  refine dt_wfV fun hwf => ?_
  have G0 := wG.refl w σ
  show dt_V _ _ _ 0 0 0 [some (dt_R w)] [] _ _
  refine dt_aloadn dX2_size_0 rfl rfl ?_
  refine dt_bipush dX2_size_1 (by decide) ?_
  refine dt_xO dX2_size_3 hO.1 rfl pv_X2_7_2 (s_leave_2 hO hT (by first | omega | (simp only [List.length_append, List.length_cons, List.length_nil]; omega)) (by decide)) rfl rfl ⟨by decide, by decide⟩ (Nat.le_of_ble_eq_true rfl) ⟨by decide, by decide⟩ ?_
  intro v1 sh1 σ1 hq1
  obtain ⟨rfl, hs1, hf1, hT1⟩ := hq1
  obtain rfl := hs1.symm
  have G1 := G0.tr hf1
  obtain ⟨a1, b1, c1⟩ := G1.f
  refine dt_iconst dX2_size_6 ?_
  refine dt_aloadn dX2_size_7 rfl rfl ?_
  refine dt_xSU2 (Mc := mX5_size) (sup := "DayTongues$CountingWord") dX2_size_8 hO.1 rfl w2_1 w2_2 w2_3 w2_4 w2_5 w2_6 w2_7 (by decide) (by decide +kernel) (s_X5_size_2 hO hT1 (by first | omega | (simp only [List.length_append, List.length_cons, List.length_nil]; omega))) ⟨by decide, by decide⟩ (Nat.le_of_ble_eq_true rfl) ⟨by decide, by decide⟩ ?_
  intro v2 sh2 σ2 hq2
  obtain ⟨rfl, hs2, hf2, hT2⟩ := hq2
  obtain rfl := hs2.symm
  have G2 := G1.tr hf2
  obtain ⟨a2, b2, c2⟩ := G2.f
  refine dt_isub dX2_size_11 ?_
  refine dt_iret dX2_size_12 rfl (by decide) (by decide) ?_
  refine ⟨dt_ie ?_, rfl, G2, ?_⟩
  · first | rfl | (simp only [a1, b1, c1, a2, b2, c2]; done)
  · first | exact hT2 | (have z := hT2; simp only [List.append_assoc, List.cons_append, List.nil_append] at z ⊢; exact z)
theorem s_X10_mark_1 {sh : List dt_Shp} {σ : dt_Mem} {w : Nat} {l : List Int} (hO : wO sh w 1) (hT : wT σ w l) (hl : l.length + 1 ≤ 15) : dt_Sp mX10_mark 1 0 0 [dt_R w] sh σ (fun v sh2 σ2 => v = some (dt_I (σ w 0)) ∧ sh2 = sh ∧ wG w σ σ2 ∧ wT σ2 w (l ++ [20])) := by
  refine dt_Sp_of (by decide) (Nat.le_of_ble_eq_true rfl) ?_
  refine dt_wfV fun hwf => ?_
  have G0 := wG.refl w σ
  show dt_V _ _ _ 0 0 0 [some (dt_R w)] [] _ _
  refine dt_aloadn dX10_mark_0 rfl rfl ?_
  refine dt_bipush dX10_mark_1 (by decide) ?_
  refine dt_xO dX10_mark_3 hO.1 rfl pv_X10_25_1 (s_leave_1 hO hT (by first | omega | (simp only [List.length_append, List.length_cons, List.length_nil]; omega)) (by decide)) rfl rfl ⟨by decide, by decide⟩ (Nat.le_of_ble_eq_true rfl) ⟨by decide, by decide⟩ ?_
  intro v1 sh1 σ1 hq1
  obtain ⟨rfl, hs1, hf1, hT1⟩ := hq1
  obtain rfl := hs1.symm
  have G1 := G0.tr hf1
  obtain ⟨a1, b1, c1⟩ := G1.f
  refine dt_aloadn dX10_mark_6 rfl rfl ?_
  refine dt_getI dX10_mark_7 pg_X10_9_1 hO.1 rfl ?_
  refine dt_iret dX10_mark_10 rfl (by decide) (by decide) ?_
  refine ⟨dt_ie ?_, rfl, G1, ?_⟩
  · first | rfl | (simp only [a1, b1, c1]; done)
  · first | exact hT1 | (have z := hT1; simp only [List.append_assoc, List.cons_append, List.nil_append] at z ⊢; exact z)
theorem s_X10_size_1 {sh : List dt_Shp} {σ : dt_Mem} {w : Nat} {l : List Int} (hO : wO sh w 1) (hT : wT σ w l) (hl : l.length + 1 ≤ 15) : dt_Sp mX10_size 1 0 0 [dt_R w] sh σ (fun v sh2 σ2 => v = some (dt_I (σ w 1)) ∧ sh2 = sh ∧ wG w σ σ2 ∧ wT σ2 w (l ++ [10])) := by
  refine dt_Sp_of (by decide) (Nat.le_of_ble_eq_true rfl) ?_
  refine dt_wfV fun hwf => ?_
  have G0 := wG.refl w σ
  show dt_V _ _ _ 0 0 0 [some (dt_R w)] [] _ _
  refine dt_aloadn dX10_size_0 rfl rfl ?_
  refine dt_bipush dX10_size_1 (by decide) ?_
  refine dt_xO dX10_size_3 hO.1 rfl pv_X10_25_1 (s_leave_1 hO hT (by first | omega | (simp only [List.length_append, List.length_cons, List.length_nil]; omega)) (by decide)) rfl rfl ⟨by decide, by decide⟩ (Nat.le_of_ble_eq_true rfl) ⟨by decide, by decide⟩ ?_
  intro v1 sh1 σ1 hq1
  obtain ⟨rfl, hs1, hf1, hT1⟩ := hq1
  obtain rfl := hs1.symm
  have G1 := G0.tr hf1
  obtain ⟨a1, b1, c1⟩ := G1.f
  refine dt_aloadn dX10_size_6 rfl rfl ?_
  refine dt_getI dX10_size_7 pg_X10_15_1 hO.1 rfl ?_
  refine dt_iret dX10_size_10 rfl (by decide) (by decide) ?_
  refine ⟨dt_ie ?_, rfl, G1, ?_⟩
  · first | rfl | (simp only [a1, b1, c1]; done)
  · first | exact hT1 | (have z := hT1; simp only [List.append_assoc, List.cons_append, List.nil_append] at z ⊢; exact z)
theorem s_X1_mark_1 {sh : List dt_Shp} {σ : dt_Mem} {w : Nat} {l : List Int} (hO : wO sh w 1) (hT : wT σ w l) (hl : l.length + 2 ≤ 15) : dt_Sp mX1_mark 2 0 0 [dt_R w] sh σ (fun v sh2 σ2 => v = some (dt_I (σ w 0 - σ w 4)) ∧ sh2 = sh ∧ wG w σ σ2 ∧ wT σ2 w (l ++ [23, 20])) := by
  refine dt_Sp_of (by decide) (Nat.le_of_ble_eq_true rfl) ?_
  refine dt_wfV fun hwf => ?_
  have G0 := wG.refl w σ
  show dt_V _ _ _ 0 0 0 [some (dt_R w)] [] _ _
  refine dt_aloadn dX1_mark_0 rfl rfl ?_
  refine dt_bipush dX1_mark_1 (by decide) ?_
  refine dt_xO dX1_mark_3 hO.1 rfl pv_X1_13_1 (s_leave_1 hO hT (by first | omega | (simp only [List.length_append, List.length_cons, List.length_nil]; omega)) (by decide)) rfl rfl ⟨by decide, by decide⟩ (Nat.le_of_ble_eq_true rfl) ⟨by decide, by decide⟩ ?_
  intro v1 sh1 σ1 hq1
  obtain ⟨rfl, hs1, hf1, hT1⟩ := hq1
  obtain rfl := hs1.symm
  have G1 := G0.tr hf1
  obtain ⟨a1, b1, c1⟩ := G1.f
  refine dt_aloadn dX1_mark_6 rfl rfl ?_
  refine dt_xSU dX1_mark_7 hO.1 rfl pu_X1_24 (s_X10_mark_1 hO hT1 (by first | omega | (simp only [List.length_append, List.length_cons, List.length_nil]; omega))) rfl rfl ⟨by decide, by decide⟩ (Nat.le_of_ble_eq_true rfl) ⟨by decide, by decide⟩ ?_
  intro v2 sh2 σ2 hq2
  obtain ⟨rfl, hs2, hf2, hT2⟩ := hq2
  obtain rfl := hs2.symm
  have G2 := G1.tr hf2
  obtain ⟨a2, b2, c2⟩ := G2.f
  refine dt_aloadn dX1_mark_10 rfl rfl ?_
  refine dt_getI dX1_mark_11 pg_X1_7_1 hO.1 rfl ?_
  refine dt_isub dX1_mark_14 ?_
  refine dt_iret dX1_mark_15 rfl (by decide) (by decide) ?_
  refine ⟨dt_ie ?_, rfl, G2, ?_⟩
  · first | rfl | (simp only [a1, b1, c1, a2, b2, c2]; done)
  · first | exact hT2 | (have z := hT2; simp only [List.append_assoc, List.cons_append, List.nil_append] at z ⊢; exact z)
theorem s_X1_size_1 {sh : List dt_Shp} {σ : dt_Mem} {w : Nat} {l : List Int} (hO : wO sh w 1) (hT : wT σ w l) (hl : l.length + 4 ≤ 15) : dt_Sp mX1_size 3 0 0 [dt_R w] sh σ (fun v sh2 σ2 => v = some (dt_I (σ w 1 - (σ w 0 - σ w 4))) ∧ sh2 = sh ∧ wG w σ σ2 ∧ wT σ2 w (l ++ [13, 10, 23, 20])) := by
  refine dt_Sp_of (by decide) (Nat.le_of_ble_eq_true rfl) ?_
  refine dt_wfV fun hwf => ?_
  have G0 := wG.refl w σ
  show dt_V _ _ _ 0 0 0 [some (dt_R w)] [] _ _
  refine dt_aloadn dX1_size_0 rfl rfl ?_
  refine dt_bipush dX1_size_1 (by decide) ?_
  refine dt_xO dX1_size_3 hO.1 rfl pv_X1_13_1 (s_leave_1 hO hT (by first | omega | (simp only [List.length_append, List.length_cons, List.length_nil]; omega)) (by decide)) rfl rfl ⟨by decide, by decide⟩ (Nat.le_of_ble_eq_true rfl) ⟨by decide, by decide⟩ ?_
  intro v1 sh1 σ1 hq1
  obtain ⟨rfl, hs1, hf1, hT1⟩ := hq1
  obtain rfl := hs1.symm
  have G1 := G0.tr hf1
  obtain ⟨a1, b1, c1⟩ := G1.f
  refine dt_aloadn dX1_size_6 rfl rfl ?_
  refine dt_xSU dX1_size_7 hO.1 rfl pu_X1_17 (s_X10_size_1 hO hT1 (by first | omega | (simp only [List.length_append, List.length_cons, List.length_nil]; omega))) rfl rfl ⟨by decide, by decide⟩ (Nat.le_of_ble_eq_true rfl) ⟨by decide, by decide⟩ ?_
  intro v2 sh2 σ2 hq2
  obtain ⟨rfl, hs2, hf2, hT2⟩ := hq2
  obtain rfl := hs2.symm
  have G2 := G1.tr hf2
  obtain ⟨a2, b2, c2⟩ := G2.f
  refine dt_aloadn dX1_size_10 rfl rfl ?_
  refine dt_xO dX1_size_11 hO.1 rfl pv_X1_21_1 (s_X1_mark_1 hO hT2 (by first | omega | (simp only [List.length_append, List.length_cons, List.length_nil]; omega))) rfl rfl ⟨by decide, by decide⟩ (Nat.le_of_ble_eq_true rfl) ⟨by decide, by decide⟩ ?_
  intro v3 sh3 σ3 hq3
  obtain ⟨rfl, hs3, hf3, hT3⟩ := hq3
  obtain rfl := hs3.symm
  have G3 := G2.tr hf3
  obtain ⟨a3, b3, c3⟩ := G3.f
  refine dt_isub dX1_size_14 ?_
  refine dt_iret dX1_size_15 rfl (by decide) (by decide) ?_
  refine ⟨dt_ie ?_, rfl, G3, ?_⟩
  · first | rfl | (simp only [a1, b1, c1, a2, b2, c2, a3, b3, c3]; done)
  · first | exact hT3 | (have z := hT3; simp only [List.append_assoc, List.cons_append, List.nil_append] at z ⊢; exact z)
theorem s_X10_mark_3 {sh : List dt_Shp} {σ : dt_Mem} {w : Nat} {l : List Int} (hO : wO sh w 3) (hT : wT σ w l) (hl : l.length + 1 ≤ 15) : dt_Sp mX10_mark 1 0 0 [dt_R w] sh σ (fun v sh2 σ2 => v = some (dt_I (σ w 0)) ∧ sh2 = sh ∧ wG w σ σ2 ∧ wT σ2 w (l ++ [20])) := by
  refine dt_Sp_of (by decide) (Nat.le_of_ble_eq_true rfl) ?_
  refine dt_wfV fun hwf => ?_
  have G0 := wG.refl w σ
  show dt_V _ _ _ 0 0 0 [some (dt_R w)] [] _ _
  refine dt_aloadn dX10_mark_0 rfl rfl ?_
  refine dt_bipush dX10_mark_1 (by decide) ?_
  refine dt_xO dX10_mark_3 hO.1 rfl pv_X10_25_3 (s_leave_3 hO hT (by first | omega | (simp only [List.length_append, List.length_cons, List.length_nil]; omega)) (by decide)) rfl rfl ⟨by decide, by decide⟩ (Nat.le_of_ble_eq_true rfl) ⟨by decide, by decide⟩ ?_
  intro v1 sh1 σ1 hq1
  obtain ⟨rfl, hs1, hf1, hT1⟩ := hq1
  obtain rfl := hs1.symm
  have G1 := G0.tr hf1
  obtain ⟨a1, b1, c1⟩ := G1.f
  refine dt_aloadn dX10_mark_6 rfl rfl ?_
  refine dt_getI dX10_mark_7 pg_X10_9_3 hO.1 rfl ?_
  refine dt_iret dX10_mark_10 rfl (by decide) (by decide) ?_
  refine ⟨dt_ie ?_, rfl, G1, ?_⟩
  · first | rfl | (simp only [a1, b1, c1]; done)
  · first | exact hT1 | (have z := hT1; simp only [List.append_assoc, List.cons_append, List.nil_append] at z ⊢; exact z)
theorem s_X10_size_3 {sh : List dt_Shp} {σ : dt_Mem} {w : Nat} {l : List Int} (hO : wO sh w 3) (hT : wT σ w l) (hl : l.length + 1 ≤ 15) : dt_Sp mX10_size 1 0 0 [dt_R w] sh σ (fun v sh2 σ2 => v = some (dt_I (σ w 1)) ∧ sh2 = sh ∧ wG w σ σ2 ∧ wT σ2 w (l ++ [10])) := by
  refine dt_Sp_of (by decide) (Nat.le_of_ble_eq_true rfl) ?_
  refine dt_wfV fun hwf => ?_
  have G0 := wG.refl w σ
  show dt_V _ _ _ 0 0 0 [some (dt_R w)] [] _ _
  refine dt_aloadn dX10_size_0 rfl rfl ?_
  refine dt_bipush dX10_size_1 (by decide) ?_
  refine dt_xO dX10_size_3 hO.1 rfl pv_X10_25_3 (s_leave_3 hO hT (by first | omega | (simp only [List.length_append, List.length_cons, List.length_nil]; omega)) (by decide)) rfl rfl ⟨by decide, by decide⟩ (Nat.le_of_ble_eq_true rfl) ⟨by decide, by decide⟩ ?_
  intro v1 sh1 σ1 hq1
  obtain ⟨rfl, hs1, hf1, hT1⟩ := hq1
  obtain rfl := hs1.symm
  have G1 := G0.tr hf1
  obtain ⟨a1, b1, c1⟩ := G1.f
  refine dt_aloadn dX10_size_6 rfl rfl ?_
  refine dt_getI dX10_size_7 pg_X10_15_3 hO.1 rfl ?_
  refine dt_iret dX10_size_10 rfl (by decide) (by decide) ?_
  refine ⟨dt_ie ?_, rfl, G1, ?_⟩
  · first | rfl | (simp only [a1, b1, c1]; done)
  · first | exact hT1 | (have z := hT1; simp only [List.append_assoc, List.cons_append, List.nil_append] at z ⊢; exact z)
theorem s_X1_mark_3 {sh : List dt_Shp} {σ : dt_Mem} {w : Nat} {l : List Int} (hO : wO sh w 3) (hT : wT σ w l) (hl : l.length + 2 ≤ 15) : dt_Sp mX1_mark 2 0 0 [dt_R w] sh σ (fun v sh2 σ2 => v = some (dt_I (σ w 0 - σ w 4)) ∧ sh2 = sh ∧ wG w σ σ2 ∧ wT σ2 w (l ++ [23, 20])) := by
  refine dt_Sp_of (by decide) (Nat.le_of_ble_eq_true rfl) ?_
  refine dt_wfV fun hwf => ?_
  have G0 := wG.refl w σ
  show dt_V _ _ _ 0 0 0 [some (dt_R w)] [] _ _
  refine dt_aloadn dX1_mark_0 rfl rfl ?_
  refine dt_bipush dX1_mark_1 (by decide) ?_
  refine dt_xO dX1_mark_3 hO.1 rfl pv_X1_13_3 (s_leave_3 hO hT (by first | omega | (simp only [List.length_append, List.length_cons, List.length_nil]; omega)) (by decide)) rfl rfl ⟨by decide, by decide⟩ (Nat.le_of_ble_eq_true rfl) ⟨by decide, by decide⟩ ?_
  intro v1 sh1 σ1 hq1
  obtain ⟨rfl, hs1, hf1, hT1⟩ := hq1
  obtain rfl := hs1.symm
  have G1 := G0.tr hf1
  obtain ⟨a1, b1, c1⟩ := G1.f
  refine dt_aloadn dX1_mark_6 rfl rfl ?_
  refine dt_xSU dX1_mark_7 hO.1 rfl pu_X1_24 (s_X10_mark_3 hO hT1 (by first | omega | (simp only [List.length_append, List.length_cons, List.length_nil]; omega))) rfl rfl ⟨by decide, by decide⟩ (Nat.le_of_ble_eq_true rfl) ⟨by decide, by decide⟩ ?_
  intro v2 sh2 σ2 hq2
  obtain ⟨rfl, hs2, hf2, hT2⟩ := hq2
  obtain rfl := hs2.symm
  have G2 := G1.tr hf2
  obtain ⟨a2, b2, c2⟩ := G2.f
  refine dt_aloadn dX1_mark_10 rfl rfl ?_
  refine dt_getI dX1_mark_11 pg_X1_7_3 hO.1 rfl ?_
  refine dt_isub dX1_mark_14 ?_
  refine dt_iret dX1_mark_15 rfl (by decide) (by decide) ?_
  refine ⟨dt_ie ?_, rfl, G2, ?_⟩
  · first | rfl | (simp only [a1, b1, c1, a2, b2, c2]; done)
  · first | exact hT2 | (have z := hT2; simp only [List.append_assoc, List.cons_append, List.nil_append] at z ⊢; exact z)
theorem s_X1_size_3 {sh : List dt_Shp} {σ : dt_Mem} {w : Nat} {l : List Int} (hO : wO sh w 3) (hT : wT σ w l) (hl : l.length + 4 ≤ 15) : dt_Sp mX1_size 3 0 0 [dt_R w] sh σ (fun v sh2 σ2 => v = some (dt_I (σ w 1 - (σ w 0 - σ w 4))) ∧ sh2 = sh ∧ wG w σ σ2 ∧ wT σ2 w (l ++ [13, 10, 23, 20])) := by
  refine dt_Sp_of (by decide) (Nat.le_of_ble_eq_true rfl) ?_
  refine dt_wfV fun hwf => ?_
  have G0 := wG.refl w σ
  show dt_V _ _ _ 0 0 0 [some (dt_R w)] [] _ _
  refine dt_aloadn dX1_size_0 rfl rfl ?_
  refine dt_bipush dX1_size_1 (by decide) ?_
  refine dt_xO dX1_size_3 hO.1 rfl pv_X1_13_3 (s_leave_3 hO hT (by first | omega | (simp only [List.length_append, List.length_cons, List.length_nil]; omega)) (by decide)) rfl rfl ⟨by decide, by decide⟩ (Nat.le_of_ble_eq_true rfl) ⟨by decide, by decide⟩ ?_
  intro v1 sh1 σ1 hq1
  obtain ⟨rfl, hs1, hf1, hT1⟩ := hq1
  obtain rfl := hs1.symm
  have G1 := G0.tr hf1
  obtain ⟨a1, b1, c1⟩ := G1.f
  refine dt_aloadn dX1_size_6 rfl rfl ?_
  refine dt_xSU dX1_size_7 hO.1 rfl pu_X1_17 (s_X10_size_3 hO hT1 (by first | omega | (simp only [List.length_append, List.length_cons, List.length_nil]; omega))) rfl rfl ⟨by decide, by decide⟩ (Nat.le_of_ble_eq_true rfl) ⟨by decide, by decide⟩ ?_
  intro v2 sh2 σ2 hq2
  obtain ⟨rfl, hs2, hf2, hT2⟩ := hq2
  obtain rfl := hs2.symm
  have G2 := G1.tr hf2
  obtain ⟨a2, b2, c2⟩ := G2.f
  refine dt_aloadn dX1_size_10 rfl rfl ?_
  refine dt_xO dX1_size_11 hO.1 rfl pv_X1_21_3 (s_X1_mark_3 hO hT2 (by first | omega | (simp only [List.length_append, List.length_cons, List.length_nil]; omega))) rfl rfl ⟨by decide, by decide⟩ (Nat.le_of_ble_eq_true rfl) ⟨by decide, by decide⟩ ?_
  intro v3 sh3 σ3 hq3
  obtain ⟨rfl, hs3, hf3, hT3⟩ := hq3
  obtain rfl := hs3.symm
  have G3 := G2.tr hf3
  obtain ⟨a3, b3, c3⟩ := G3.f
  refine dt_isub dX1_size_14 ?_
  refine dt_iret dX1_size_15 rfl (by decide) (by decide) ?_
  refine ⟨dt_ie ?_, rfl, G3, ?_⟩
  · first | rfl | (simp only [a1, b1, c1, a2, b2, c2, a3, b3, c3]; done)
  · first | exact hT3 | (have z := hT3; simp only [List.append_assoc, List.cons_append, List.nil_append] at z ⊢; exact z)
theorem s_X3_size_3 {sh : List dt_Shp} {σ : dt_Mem} {w : Nat} {l : List Int} (hO : wO sh w 3) (hT : wT σ w l) (hl : l.length + 5 ≤ 15) : dt_Sp mX3_size 4 0 0 [dt_R w] sh σ (fun v sh2 σ2 => v = some (dt_I (2 * (σ w 1 - (σ w 0 - σ w 4)))) ∧ sh2 = sh ∧ wG w σ σ2 ∧ wT σ2 w (l ++ [14, 13, 10, 23, 20])) := by
  refine dt_Sp_of (by decide) (Nat.le_of_ble_eq_true rfl) ?_
  refine dt_wfV fun hwf => ?_
  have G0 := wG.refl w σ
  show dt_V _ _ _ 0 0 0 [some (dt_R w)] [] _ _
  refine dt_aloadn dX3_size_0 rfl rfl ?_
  refine dt_bipush dX3_size_1 (by decide) ?_
  refine dt_xO dX3_size_3 hO.1 rfl pv_X3_7_3 (s_leave_3 hO hT (by first | omega | (simp only [List.length_append, List.length_cons, List.length_nil]; omega)) (by decide)) rfl rfl ⟨by decide, by decide⟩ (Nat.le_of_ble_eq_true rfl) ⟨by decide, by decide⟩ ?_
  intro v1 sh1 σ1 hq1
  obtain ⟨rfl, hs1, hf1, hT1⟩ := hq1
  obtain rfl := hs1.symm
  have G1 := G0.tr hf1
  obtain ⟨a1, b1, c1⟩ := G1.f
  refine dt_iconst dX3_size_6 ?_
  refine dt_aloadn dX3_size_7 rfl rfl ?_
  refine dt_xSU dX3_size_8 hO.1 rfl pu_X3_13 (s_X1_size_3 hO hT1 (by first | omega | (simp only [List.length_append, List.length_cons, List.length_nil]; omega))) rfl rfl ⟨by decide, by decide⟩ (Nat.le_of_ble_eq_true rfl) ⟨by decide, by decide⟩ ?_
  intro v2 sh2 σ2 hq2
  obtain ⟨rfl, hs2, hf2, hT2⟩ := hq2
  obtain rfl := hs2.symm
  have G2 := G1.tr hf2
  obtain ⟨a2, b2, c2⟩ := G2.f
  refine dt_imul dX3_size_11 ?_
  refine dt_iret dX3_size_12 rfl (by decide) (by decide) ?_
  refine ⟨dt_ie ?_, rfl, G2, ?_⟩
  · first | rfl | (simp only [a1, b1, c1, a2, b2, c2]; done)
  · first | exact hT2 | (have z := hT2; simp only [List.append_assoc, List.cons_append, List.nil_append] at z ⊢; exact z)
