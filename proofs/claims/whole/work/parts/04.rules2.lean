section DTS
variable {M : dt_MD} {R : Room} {C : dt_Cx} {kc ks pc : Nat} {ls : List (Option dt_MV)} {st : List dt_MV} {sh : List dt_Shp} {σ : dt_Mem}
/-! arrays -/
theorem dt_iald {a n : Nat} {i : Int} (hd : decode M.2.1 pc = .ok (.iaload, 1)) (hs : sh[a]? = some (.inr (0, n))) (h0 : 0 ≤ i) (h1 : i < n) (h2 : (n : Int) ≤ 2147483647) (k : dt_V M R C kc ks (pc + 1) ls (dt_I (σ a i.toNat) :: st) sh σ) : dt_V M R C kc ks pc ls (dt_I i :: dt_R a :: st) sh σ := by
  intro p l e s m args below meth c D dA S B H locs lsA Z F X P hS L
  have hi : dt_in32 i := ⟨by omega, by omega⟩
  refine va_iald F.1 F.2.1 F.2.2.2.2.2.2.2.2.1 P.2.2 a 0 (dt_ws_at hs) rfl (dt_vpin hi h0 h1) hd ?_
  rw [dt_cl hi]
  exact (k p l e s m args below meth c D dA S B H locs lsA Z F X P hS L)
theorem dt_zald {a n : Nat} {i : Int} (hd : decode M.2.1 pc = .ok (.baload, 1)) (hs : sh[a]? = some (.inr (1, n))) (h0 : 0 ≤ i) (h1 : i < n) (h2 : (n : Int) ≤ 2147483647) (k : dt_V M R C kc ks (pc + 1) ls (dt_I (σ a i.toNat) :: st) sh σ) : dt_V M R C kc ks pc ls (dt_I i :: dt_R a :: st) sh σ := by
  intro p l e s m args below meth c D dA S B H locs lsA Z F X P hS L
  have hi : dt_in32 i := ⟨by omega, by omega⟩
  refine va_zald F.1 F.2.1 F.2.2.2.2.2.2.2.2.1 P.2.2 a 1 (dt_ws_at hs) rfl (dt_vpin hi h0 h1) hd ?_
  rw [dt_cl hi]
  exact (k p l e s m args below meth c D dA S B H locs lsA Z F X P hS L)
theorem dt_arr_up {B : Nat} {S : Nat → Nat} {dA : Nat → ClassId} {D : va_G} {H H1 : Heap} {a ty n i : Nat} {x : Int} {v : Value} (hs : sh[a]? = some (.inr (ty, n))) (P : dt_Rep B S D dA sh σ H) (hx : dt_in32 x) (hv : v = .int (Int32.ofInt x)) (e : H1[B + a]? = some ((vp_cell (dA ty) (n, .inl (fun j => Int32.ofInt (σ a j)))).setSlot i v)) (z : H1.size = H.size) (oq : ∀ q : Nat, q ≠ B + a → H1[q]? = H[q]?) : dt_Rep B S D dA sh (dt_up σ a i x) H1 := by
  have ha : a < sh.length := (List.getElem?_eq_some_iff.mp hs).1
  refine ⟨P.1.up hx, by rw [z, P.2.1], ?_⟩
  rw [← dt_ws_set (σ := σ) (x := .inr (ty, n)) ha (dt_set_self hs).symm (fun b hb => by unfold dt_up; funext j; rw [if_neg hb])]
  refine P.2.2.set dt_ws_D (dt_ws_at hs) ?_ oq
  show H1[B + a]? = some (vp_cell _ _)
  rw [e, hv, vp_cell_i, arrV_store]
  show some (arrV (dA ty) n (updV (fun j => Value.int (Int32.ofInt (σ a j))) i (Value.int (Int32.ofInt x)))) = some (arrV (dA ty) n (fun j => Value.int (Int32.ofInt (dt_up σ a i x a j))))
  congr 2
  funext q
  by_cases hq : q = i
  · subst hq
    simp [updV, dt_up]
  · simp [updV, dt_up, hq]
theorem dt_iast {a n : Nat} {i x : Int} (hd : decode M.2.1 pc = .ok (.iastore, 1)) (hs : sh[a]? = some (.inr (0, n))) (h0 : 0 ≤ i) (h1 : i < n) (h2 : (n : Int) ≤ 2147483647) (hx : dt_in32 x) (k : dt_V M R C kc ks (pc + 1) ls st sh (dt_up σ a i.toNat x)) : dt_V M R C kc ks pc ls (dt_I x :: dt_I i :: dt_R a :: st) sh σ := by
  intro p l e s m args below meth c D dA S B H locs lsA Z F X P hS L
  have hi : dt_in32 i := ⟨by omega, by omega⟩
  refine W.iast F.1 F.2.1 (P.2.2 a _ (dt_ws_at hs)) ((F.2.2.2.2.2.2.2.2.1.2 0 _ rfl).1 n _) (fun q => by cases q) (by show ¬ (_ < 0 ∨ (arrV _ _ _).slots.size ≤ _); rw [arrV_size]; exact dt_vpin hi h0 h1) rfl rfl hd fun H1 e1 z oq => ?_
  rw [dt_cl hi] at e1
  exact k p l e s m args below meth c D dA S B H1 _ lsA Z F X (dt_arr_up hs P hx rfl e1 z oq) (hS.put z oq (by show B ≤ B + a; omega)) L
theorem dt_zast {a n : Nat} {i x : Int} (hd : decode M.2.1 pc = .ok (.bastore, 1)) (hs : sh[a]? = some (.inr (1, n))) (h0 : 0 ≤ i) (h1 : i < n) (h2 : (n : Int) ≤ 2147483647) (hx : x = 0 ∨ x = 1) (k : dt_V M R C kc ks (pc + 1) ls st sh (dt_up σ a i.toNat x)) : dt_V M R C kc ks pc ls (dt_I x :: dt_I i :: dt_R a :: st) sh σ := by
  intro p l e s m args below meth c D dA S B H locs lsA Z F X P hS L
  have hi : dt_in32 i := ⟨by omega, by omega⟩
  refine W.zast F.1 F.2.1 (P.2.2 a _ (dt_ws_at hs)) ((F.2.2.2.2.2.2.2.2.1.2 1 _ rfl).1 n _) (fun q => by cases q) (by show ¬ (_ < 0 ∨ (arrV _ _ _).slots.size ≤ _); rw [arrV_size]; exact dt_vpin hi h0 h1) rfl rfl hd fun H1 e1 z oq => ?_
  rw [dt_cl hi] at e1
  exact k p l e s m args below meth c D dA S B H1 _ lsA Z F X (dt_arr_up hs P (by rcases hx with rfl | rfl <;> decide) (by rcases hx with rfl | rfl <;> rfl) e1 z oq) (hS.put z oq (by show B ≤ B + a; omega)) L
theorem dt_alen {a ty n : Nat} (hd : decode M.2.1 pc = .ok (.arraylength, 1)) (hs : sh[a]? = some (.inr (ty, n))) (hty : ty = 0 ∨ ty = 1) (k : dt_V M R C kc ks (pc + 1) ls (dt_I n :: st) sh σ) : dt_V M R C kc ks pc ls (dt_R a :: st) sh σ := by
  intro p l e s m args below meth c D dA S B H locs lsA Z F X P hS L
  have h := (k p l e s m args below meth c D dA S B H locs lsA Z F X P hS L)
  rcases hty with rfl | rfl
  · exact va_alen F.1 F.2.1 F.2.2.2.2.2.2.2.2.1 P.2.2 a 0 (dt_ws_at hs) rfl Int32.ofInt_eq_ofNat.symm hd h
  · exact va_alen F.1 F.2.1 F.2.2.2.2.2.2.2.2.1 P.2.2 a 1 (dt_ws_at hs) rfl Int32.ofInt_eq_ofNat.symm hd h
/-- nothing in a cell that is made -/
def dt_zr (σ : dt_Mem) (a : Nat) : dt_Mem := fun b j => if b = a then 0 else σ b j
theorem dt_wf.zr {σ : dt_Mem} (h : dt_wf σ) {a : Nat} : dt_wf (dt_zr σ a) := by
  intro b j
  unfold dt_zr
  split
  · decide
  · exact h b j
theorem dt_push {B : Nat} {S : Nat → Nat} {dA : Nat → ClassId} {D : va_G} {H H1 : Heap} {x : dt_Shp} (P : dt_Rep B S D dA sh σ H) (z : H1.size = H.size + 1) (oq : ∀ q : Nat, q < H.size → H1[q]? = H[q]?) (hc : va_at D dt_cls (B + sh.length, dt_cell B S dA x (fun _ => 0)) H1) : dt_Rep B S D dA (sh ++ [x]) (dt_zr σ sh.length) H1 := by
  refine ⟨P.1.zr, by rw [z, P.2.1, List.length_append]; rfl, ?_⟩
  intro k q hk
  simp only [dt_ws, List.getElem?_mapIdx, Option.map_eq_some_iff] at hk
  obtain ⟨y, hy, rfl⟩ := hk
  by_cases hl : k < sh.length
  · rw [List.getElem?_append_left hl] at hy
    have h1 := P.2.2 k _ (dt_ws_at hy)
    have e : dt_zr σ sh.length k = σ k := by
      funext j
      simp [dt_zr, Nat.ne_of_lt hl]
    rw [e]
    exact h1.kept (oq (B + k) (by rw [P.2.1]; omega))
  · rw [List.getElem?_append_right (by omega)] at hy
    have hz : k - sh.length < 1 := (List.getElem?_eq_some_iff.mp hy).1
    have hk0 : k = sh.length := by omega
    subst hk0
    rw [Nat.sub_self] at hy
    cases hy
    have e : dt_zr σ sh.length sh.length = fun _ => 0 := by
      funext j
      simp [dt_zr]
    rw [e]
    exact hc
theorem dt_newa0 {ty : Nat} {at' : ArrayType} {n : Int} (hd : decode M.2.1 pc = .ok (.newarray at', 2)) (hat : (ty = 0 ∧ at' = .int) ∨ (ty = 1 ∧ at' = .boolean)) (h0 : 0 ≤ n) (h1 : n ≤ 1000000) (hc : kc + 1 ≤ R.cells) (hs : ks + n.toNat ≤ R.slots) (hw : Cond.arrayClass (newarray.typeOf at') ∈ dt_tbl) (k : dt_V M R C (kc + 1) (ks + n.toNat) (pc + 2) ls (dt_R sh.length :: st) (sh ++ [.inr (ty, n.toNat)]) (dt_zr σ sh.length)) : dt_V M R C kc ks pc ls (dt_I n :: st) sh σ := by
  intro p l e s m args below meth c D dA S B H locs lsA Z F X P hS L
  have hi : dt_in32 n := ⟨by omega, by omega⟩
  have hK := F.2.2.2.2.2.2.2.2.1
  have hcb : componentBytes (newarray.typeOf at') ≤ 4 := by rcases hat with ⟨-, rfl⟩ | ⟨-, rfl⟩ <;> decide
  refine va_newaK F.1 F.2.1 (F.2.2.2.2.2.2.1 _ hw) rfl hd rfl (by rw [dt_0, dt_lt hi dt_z]; omega) (dt_cl hi) (by
    have : n.toNat ≤ 1000000 := by omega
    calc n.toNat * componentBytes (newarray.typeOf at') ≤ 1000000 * 4 := Nat.mul_le_mul this hcb
      _ ≤ 536870912 := by decide) hc hs rfl fun H1 cA e1 z1 o1 _ hNm => ?_
  have hA : cA = dA ty := by
    rcases hat with ⟨rfl, rfl⟩ | ⟨rfl, rfl⟩
    · exact Option.some.inj (hNm.symm.trans (hK.2 0 _ rfl).2)
    · exact Option.some.inj (hNm.symm.trans (hK.2 1 _ rfl).2)
  subst hA
  have Pz := dt_push (x := .inr (ty, n.toNat)) P z1 o1 (by
    show H1[B + sh.length]? = some (vp_cell _ _)
    rw [← P.2.1, e1, vp_cell_i]
    rcases hat with ⟨rfl, rfl⟩ | ⟨rfl, rfl⟩ <;> rfl)
  have h := k p l e s m args below meth c D dA S B H1 locs lsA Z F X Pz ⟨Nat.le_trans hS.1 (by omega), fun x g1 g2 => (o1 x (Nat.lt_of_lt_of_le g1 hS.1)).trans (hS.2.1 x g1 g2), hS.2.2⟩ L
  rw [P.2.1]
  exact h
theorem dt_new {idx ci N : Nat} {Cn : String} {T : u_T} {tags : List Nat} (hd : decode M.2.1 pc = .ok (.new idx, 3)) (hc : dt_cls[ci]? = some (Cn, T, N)) (hw1 : Cond.classLink M.1.cls idx Cn ∈ dt_tbl) (hw2 : Cond.instantiable Cn N ∈ dt_tbl) (hw3 : Cond.initialized Cn ∈ dt_tbl) (ht : tags.length = N) (htg : ∀ j, j < N → ∀ B S, defaultValue (dt_ty ci j) = dt_tr B S (dt_rd (tags.getD j 3) 0)) (h1 : kc + 1 ≤ R.cells) (h2 : ks + N ≤ R.slots) (k : dt_V M R C (kc + 1) (ks + N) (pc + 3) ls (dt_R sh.length :: st) (sh ++ [.inl (ci, tags)]) (dt_zr σ sh.length)) : dt_V M R C kc ks pc ls st sh σ := by
  intro p l e s m args below meth c D dA S B H locs lsA Z F X P hS L
  have hK := F.2.2.2.2.2.2.2.2.1
  have hts := F.2.2.2.2.2.2.1
  obtain ⟨c1, c2, c3⟩ := dt_clok_of ci _ hc
  have hKn := hK.1 ci _ hc
  refine W.newcK F.1 F.2.1 F.2.2.2.2.1 (hts _ hw1) (hts _ hw2) (hts _ hw3) rfl hd h1 h2 hKn.2.1 rfl fun H1 kC hkC e1 z1 o1 => ?_
  have Pz := dt_push (x := .inl (ci, tags)) P z1 o1 (by
    refine ⟨_, hc, ?_⟩
    rw [← P.2.1]
    refine (u_born (dt_ty ci) hts c3 hKn hkC e1 c2).to fun j hj => ?_
    rw [htg j hj B S]
    have hj1 : j < N := hj
    have hj2 : tags[j]? = some (tags.getD j 3) := by
      show _ = some (tags[j]?.getD 3)
      rw [List.getElem?_eq_getElem (by omega)]
      rfl
    show _ = ((dt_fl B S (fun _ => 0) tags)[j]?).getD .null
    rw [dt_fl_at hj2]
    rfl)
  have h := k p l e s m args below meth c D dA S B H1 locs lsA Z F X Pz ⟨Nat.le_trans hS.1 (by omega), fun x g1 g2 => (o1 x (Nat.lt_of_lt_of_le g1 hS.1)).trans (hS.2.1 x g1 g2), hS.2.2⟩ L
  rw [P.2.1]
  exact h
/-! ends -/
theorem dt_iret {d mc ms : Nat} {Q : Option dt_MV → List dt_Shp → dt_Mem → Prop} {x : Int} (hd : decode M.2.1 pc = .ok (.ireturn, 1)) (hr : M.2.2.2 = some .int) (h1 : kc ≤ mc) (h2 : ks ≤ ms) (q : Q (some (dt_I x)) sh σ) : dt_V M (dt_rm d mc ms) (dt_MC Q mc ms) kc ks pc ls [dt_I x] sh σ := by
  intro p l e s m args below meth c D dA S B H locs lsA Z F X P hS L
  subst X
  exact W.widen h1 h2 (W.iret F.1 F.2.1 (F.2.2.2.1.trans hr) (fun t ht _ => ⟨⟨_, sh, σ, rfl, q, by rw [ht]; exact P⟩, hS.F ht⟩) hS.2.2 hd F.2.2.2.2.2.2.2.1)
theorem dt_zret {d mc ms : Nat} {Q : Option dt_MV → List dt_Shp → dt_Mem → Prop} {x : Int} (hd : decode M.2.1 pc = .ok (.ireturn, 1)) (hr : M.2.2.2 = some .boolean) (h1 : kc ≤ mc) (h2 : ks ≤ ms) (hx : x = 0 ∨ x = 1) (q : Q (some (dt_I x)) sh σ) : dt_V M (dt_rm d mc ms) (dt_MC Q mc ms) kc ks pc ls [dt_I x] sh σ := by
  intro p l e s m args below meth c D dA S B H locs lsA Z F X P hS L
  subst X
  exact W.widen h1 h2 (W.zret F.1 F.2.1 (F.2.2.2.1.trans hr) (by rcases hx with rfl | rfl <;> rfl) (fun t ht _ => ⟨⟨some (dt_I x), sh, σ, rfl, q, by rw [ht]; exact P⟩, hS.F ht⟩) hS.2.2 hd F.2.2.2.2.2.2.2.1)
theorem dt_yret {d mc ms : Nat} {Q : Option dt_MV → List dt_Shp → dt_Mem → Prop} {x : Int} {ty : FieldType} (hd : decode M.2.1 pc = .ok (.ireturn, 1)) (hr : M.2.2.2 = some ty) (h1 : kc ≤ mc) (h2 : ks ≤ ms) (hx : narrow ty (.int (Int32.ofInt x)) = .int (Int32.ofInt x)) (q : Q (some (dt_I x)) sh σ) : dt_V M (dt_rm d mc ms) (dt_MC Q mc ms) kc ks pc ls [dt_I x] sh σ := by
  intro p l e s m args below meth c D dA S B H locs lsA Z F X P hS L
  subst X
  exact W.widen h1 h2 (W.zret F.1 F.2.1 (F.2.2.2.1.trans hr) hx (fun t ht _ => ⟨⟨some (dt_I x), sh, σ, rfl, q, by rw [ht]; exact P⟩, hS.F ht⟩) hS.2.2 hd F.2.2.2.2.2.2.2.1)
theorem dt_lret {d mc ms : Nat} {Q : Option dt_MV → List dt_Shp → dt_Mem → Prop} {x : Int} (hd : decode M.2.1 pc = .ok (.lreturn, 1)) (hr : M.2.2.2 = some .long) (h1 : kc ≤ mc) (h2 : ks ≤ ms) (q : Q (some (dt_L x)) sh σ) : dt_V M (dt_rm d mc ms) (dt_MC Q mc ms) kc ks pc ls [dt_L x] sh σ := by
  intro p l e s m args below meth c D dA S B H locs lsA Z F X P hS L
  subst X
  exact W.widen h1 h2 (W.lret F.1 F.2.1 (F.2.2.2.1.trans hr) (fun t ht _ => ⟨⟨some (dt_L x), sh, σ, rfl, q, by rw [ht]; exact P⟩, hS.F ht⟩) hS.2.2 hd F.2.2.2.2.2.2.2.1)
theorem dt_aret {d mc ms : Nat} {Q : Option dt_MV → List dt_Shp → dt_Mem → Prop} {x : Nat} {Cn : String} (hd : decode M.2.1 pc = .ok (.areturn, 1)) (hr : M.2.2.2 = some (.object Cn)) (h1 : kc ≤ mc) (h2 : ks ≤ ms) (q : Q (some (dt_R x)) sh σ) : dt_V M (dt_rm d mc ms) (dt_MC Q mc ms) kc ks pc ls [dt_R x] sh σ := by
  intro p l e s m args below meth c D dA S B H locs lsA Z F X P hS L
  subst X
  exact W.widen h1 h2 (W.aret F.1 F.2.1 (F.2.2.2.1.trans hr) (Or.inl ⟨_, rfl⟩) (Or.inr ⟨_, rfl⟩) (fun t ht _ => ⟨⟨some (dt_R x), sh, σ, rfl, q, by rw [ht]; exact P⟩, hS.F ht⟩) hS.2.2 hd F.2.2.2.2.2.2.2.1)
theorem dt_vret {d mc ms : Nat} {Q : Option dt_MV → List dt_Shp → dt_Mem → Prop} (hd : decode M.2.1 pc = .ok (.return_, 1)) (hr : M.2.2.2 = none) (h1 : kc ≤ mc) (h2 : ks ≤ ms) (q : Q none sh σ) : dt_V M (dt_rm d mc ms) (dt_MC Q mc ms) kc ks pc ls [] sh σ := by
  intro p l e s m args below meth c D dA S B H locs lsA Z F X P hS L
  subst X
  exact W.widen h1 h2 (W.vret F.1 F.2.1 (F.2.2.2.1.trans hr) (fun t ht _ => ⟨⟨none, sh, σ, rfl, q, by rw [ht]; exact P⟩, hS.F ht⟩) hS.2.2 hd F.2.2.2.2.2.2.2.1)
/-! a contract out of a walk -/
def dt_ent : Nat → List dt_MV → List (Option dt_MV)
  | n, [] => List.replicate n none
  | n, v :: vs => match v with
    | .inr (.inl x) => some (dt_L x) :: none :: dt_ent (n - 2) vs
    | w => some w :: dt_ent (n - 1) vs
def dt_ct (v : dt_MV) : Nat := match v with
  | .inr (.inl _) => 2
  | _ => 1
theorem dt_ct_eq {B : Nat} {S : Nat → Nat} (v : dt_MV) : (dt_tr B S v).category = dt_ct v := by
  rcases v with x | x | x
  · rfl
  · rfl
  · rcases x with _ | x | x <;> rfl
theorem dt_ct_sum {B : Nat} {S : Nat → Nat} (vs : List dt_MV) : ((vs.map (dt_tr B S)).map fun v => v.category).sum = (vs.map dt_ct).sum := by
  induction vs with
  | nil => rfl
  | cons v vs ih => simp only [List.map_cons, List.sum_cons, dt_ct_eq, ih]
theorem dt_sl_len {B : Nat} {S : Nat → Nat} (vs : List dt_MV) : (lg_sl (vs.map (dt_tr B S))).length = (vs.map dt_ct).sum := by
  induction vs with
  | nil => rfl
  | cons v vs ih =>
    have e : lg_sl ((v :: vs).map (dt_tr B S)) = (if (dt_tr B S v).category = 2 then [.val (dt_tr B S v), .second] else [.val (dt_tr B S v)]) ++ lg_sl (vs.map (dt_tr B S)) := rfl
    rw [e, List.length_append, ih, List.map_cons, List.sum_cons, ← dt_ct_eq (B := B) (S := S) v]
    rcases lv_cat (dt_tr B S v) with h | h <;> simp [h]
theorem dt_ent_in {B : Nat} {S : Nat → Nat} : ∀ (vs : List dt_MV) (n o i : Nat) (w : dt_MV), (dt_ent n vs)[i]? = some (some w) → (o + i, dt_tr B S w) ∈ lv_args o (vs.map (dt_tr B S))
  | [], n, o, i, w, h => by
    simp only [dt_ent] at h
    have := List.eq_of_mem_replicate (List.mem_of_getElem? h)
    cases this
  | v :: vs, n, o, i, w, h => by
    rw [List.map_cons, lv_args]
    by_cases hc : (dt_tr B S v).category = 2
    · obtain ⟨x, rfl⟩ := dt_cat2 hc
      simp only [hc, if_true]
      simp only [dt_ent] at h
      match i, h with
      | 0, h =>
        have e : dt_L x = w := Option.some.inj (Option.some.inj h)
        rw [← e]
        exact List.mem_cons_self
      | 1, h => exact absurd h (by simp)
      | j + 2, h =>
        have h2 := dt_ent_in (B := B) (S := S) vs (n - 2) (o + 2) j w h
        rw [show o + (j + 2) = o + 2 + j by omega]
        exact List.mem_cons_of_mem _ h2
    · simp only [hc, if_false]
      have hd : dt_ent n (v :: vs) = some v :: dt_ent (n - 1) vs := by
        rcases v with x | x | x
        · rfl
        · exact absurd rfl hc
        · rfl
      rw [hd] at h
      match i, h with
      | 0, h =>
        have e : v = w := Option.some.inj (Option.some.inj h)
        rw [← e]
        exact List.mem_cons_self
      | j + 1, h =>
        have h2 := dt_ent_in (B := B) (S := S) vs (n - 1) (o + 1) j w h
        rw [show o + (j + 1) = o + 1 + j by omega]
        exact List.mem_cons_of_mem _ h2
theorem dt_Sp_of {d mc ms : Nat} {av : List dt_MV} {Q : Option dt_MV → List dt_Shp → dt_Mem → Prop} (hy : plainName M.1.cls = true) (hl : (av.map dt_ct).sum ≤ M.2.2.1) (hV : dt_V M (dt_rm d mc ms) (dt_MC Q mc ms) 0 0 0 (dt_ent M.2.2.1 av) [] sh σ) : dt_Sp M d mc ms av sh σ Q := by
  intro l D dA S B
  refine Met.ofW (cc := M.2.1) (maxL := M.2.2.1) (ret := M.2.2.2) hy rfl ?_
  intro p e s m args below meth c s₁ Bd hml hv
  obtain ⟨rfl, P, hK, hG⟩ := hv
  have hts := atoms_spec (ws := .code M.1 M.2.1 M.2.2.1 M.2.2.2 :: dt_tbl) Bd.pre
  rw [lg_entry_eq]
  have he := lv_entry (av.map (dt_tr B S)) (n := M.2.2.1) (by rw [dt_sl_len]; exact hl)
  refine hV p l e s m _ below meth c D dA S B s.heap [] _ _ ⟨Bd.exec, Bd.bytes, hml, Bd.returns, findClass_of_methodNamed Bd.named, (name_of_methodNamed Bd.named Bd.method).1, fun w hw => hts w (List.mem_cons_of_mem _ hw), Bd.notSynchronized, hK, hG, by rw [P.2.1]; omega⟩ rfl P va_S.rf ⟨he.1, he.2.1, fun i v hi => ?_⟩
  have h2 := dt_ent_in (B := B) (S := S) av M.2.2.1 0 i v hi
  rw [Nat.zero_add] at h2
  exact he.2.2 _ h2
/-! calls -/
/-- behind a call -/
theorem dt_run {p : Program} {l : Launch} {e : Env} {s : State} {m : MethodId} {args : Array Value} {below : List Frame} {meth : Method} {c : Code} {D : va_G} {dA : Nat → ClassId} {S : Nat → Nat} {B : Nat} {H : Heap} {locs : List Loc} {lsA : Array Slot} {Z : State → Prop} {a : Array Value} {st0 : List Value} {mc ms : Nat} {Q : Option dt_MV → List dt_Shp → dt_Mem → Prop}
    (F : dt_Fix M p s m args meth c D dA S B) (X : C l s m args below D dA S B Z) (hS : va_S (fun q => B ≤ q) s.heap H locs) (L : dt_lv B S lsA M.2.2.1 ls)
    (hr : va_Run p l e R s m args below meth c H locs kc ks mc ms (F0 m pc lsA st0) (st.map (dt_tr B S)) (dt_Qc Q D dA S B a) (fun q => B ≤ q))
    (kk : ∀ v sh' σ', Q v sh' σ' → dt_V M R C (kc + mc) (ks + ms) (pc + 3) ls (v.toList ++ st) sh' σ') : W p l e R s m args below meth c H locs kc ks Z (F0 m pc lsA st0) := by
  intro T hT Y
  obtain ⟨v, st₀, t, T', L', h0, Y', hL, e1, e2, ⟨⟨v', sh', σ', hv, hq, P'⟩, hz, hk⟩, stp⟩ := hr T hT Y
  have hv2 : v = v'.map (dt_tr B S) := by cases hv; rfl
  subst hv2
  rw [h0] at hz hk
  obtain ⟨t2, a1, b1⟩ := kk v' sh' σ' hq p l e s m args below meth c D dA S B T'.heap (locs ++ L') lsA Z F X (by rw [e1]; exact P')
    ⟨Nat.le_trans hS.1 (by rw [e1]; exact hz), fun q h1 h2 => by rw [e1, hk q (Nat.lt_of_lt_of_le h1 hS.1) h2]; exact hS.2.1 q h1 h2, fun q hq => by
      rcases List.mem_append.mp hq with h | h
      · exact hS.2.2 q h
      · exact hL q h⟩ L T' rfl Y'
  refine ⟨t2, stp t2 ?_, b1⟩
  have e3 : (v'.map (dt_tr B S)).toList ++ st.map (dt_tr B S) = (v'.toList ++ st).map (dt_tr B S) := by cases v' <;> simp
  rw [e3]
  exact a1
theorem dt_pre {Mc : dt_MD} {s : State} {D : va_G} {dA : Nat → ClassId} {S : Nat → Nat} {B : Nat} {H : Heap} {locs : List Loc} {av : List dt_MV} {p : Program} {m : MethodId} {args : Array Value} {meth : Method} {c : Code} (F : dt_Fix Mc p s m args meth c D dA S B) (P : dt_Rep B S D dA sh σ H) (hS : va_S (fun q => B ≤ q) s.heap H locs) :
    PreS s H (va_Pc (av.map (dt_tr B S)) (fun U => dt_Rep B S D dA sh σ U.heap ∧ va_K D dt_cls [(dA 0, .int), (dA 1, .boolean)] U ∧ dt_GK S B U U.heap)) (av.map (dt_tr B S)) :=
  ⟨fun a U g mk q => ⟨q.1, q.2.1, va_K.moved (u := U) (U := U.calling g mk a) (Vm.Alike.refl U.vm) q.2.2.1, dt_GK.same (s := U) (U := U.calling g mk a) rfl q.2.2.2⟩,
    fun U hU hW => ⟨rfl, by rw [hU]; exact P, va_K.moved hW.alike F.2.2.2.2.2.2.2.2.1, by rw [hU]; exact dt_GK.moved hW F.2.2.2.2.2.2.2.2.2.1 hS.2.1⟩⟩
theorem dt_rcv {s : State} {D : va_G} {dA : Nat → ClassId} {S : Nat → Nat} {B : Nat} {H : Heap} {a ci : Nat} {tags : List Nat} {q : vw_C} {tys : List (ClassId × FieldType)} (hK : va_K D dt_cls tys s) (P : dt_Rep B S D dA sh σ H) (hs : sh[a]? = some (.inl (ci, tags))) (hc : dt_cls[ci]? = some q) : ∃ cell : Cell, H[B + a]? = some cell ∧ cell.vm.isStatics = false ∧ s.vm.findClass q.1 = some cell.cls :=
  va_recv hK P.2.2 hc (dt_ws_at hs)
/-- what the tables say of a call -/
def dt_wb (own : String) (idx : Nat) (Mc : dt_MD) (n : Nat) : Prop := Cond.methodLink own idx Mc.1 ∈ dt_tbl ∧ Cond.code Mc.1 Mc.2.1 Mc.2.2.1 Mc.2.2.2 ∈ dt_tbl ∧ Cond.initialized Mc.1.cls ∈ dt_tbl ∧ (Mc.1.cls ≠ "java/lang/invoke/MethodHandle" ∧ Mc.1.cls ≠ "java/lang/invoke/VarHandle") ∧ (parseMethodDescriptor Mc.1.desc).map (fun d => d.parameters.length) = some n
def dt_wv (own : String) (idx : Nat) (Mc : dt_MD) (n : Nat) : Prop := dt_wb own idx Mc n ∧ Cond.instanceMethod Mc.1 ∈ dt_tbl ∧ Cond.selects Mc.1.cls Mc.1 Mc.1 ∈ dt_tbl
def dt_wst (own : String) (idx : Nat) (Mc : dt_MD) (n : Nat) : Prop := dt_wb own idx Mc n ∧ Cond.static Mc.1 ∈ dt_tbl
def dt_wi (own : String) (idx : Nat) (Mc : dt_MD) (n : Nat) : Prop := dt_wb own idx Mc n ∧ Cond.instanceMethod Mc.1 ∈ dt_tbl ∧ Mc.1.name = "<init>" ∧ Mc.2.2.2 = none
/-- super.m() -/
def dt_wsu (own : String) (idx : Nat) (Mc : dt_MD) (n : Nat) : Prop := dt_wb own idx Mc n ∧ Cond.instanceMethod Mc.1 ∈ dt_tbl ∧ Cond.sameMethod Mc.1.cls Mc.1.cls Mc.1.name Mc.1.desc ∈ dt_tbl ∧ Cond.superclass own Mc.1.cls ∈ dt_tbl ∧ Mc.1.name ≠ "<init>"
/-- a method named x (declared by owner), chosen Mc by the receiver's class C -/
def dt_wo (own : String) (idx : Nat) (Cn owner : String) (x : MethodName) (Mc : dt_MD) (n : Nat) : Prop := Cond.methodLink own idx x ∈ dt_tbl ∧ Cond.sameMethod x.cls owner x.name x.desc ∈ dt_tbl ∧ Cond.selects Cn x Mc.1 ∈ dt_tbl ∧ Cond.instanceMethod Mc.1 ∈ dt_tbl ∧ Cond.initialized Mc.1.cls ∈ dt_tbl ∧ Cond.code Mc.1 Mc.2.1 Mc.2.2.1 Mc.2.2.2 ∈ dt_tbl ∧ Cond.instanceMethod ⟨owner, x.name, x.desc⟩ ∈ dt_tbl ∧ (∃ b0 m0 r0, Cond.code ⟨owner, x.name, x.desc⟩ b0 m0 r0 ∈ dt_tbl) ∧ (owner ≠ "java/lang/invoke/MethodHandle" ∧ owner ≠ "java/lang/invoke/VarHandle") ∧ (parseMethodDescriptor x.desc).map (fun d => d.parameters.length) = some n
theorem dt_cb {own : String} {idx n d mc ms : Nat} {Mc : dt_MD} {s : State} {args : Array Value} (h : dt_wb own idx Mc n) (ht : ∀ w ∈ dt_tbl, w.before args s = true) (hR : d + 1 ≤ R.frames ∧ 8 + (Mc.2.2.1 + 11) + 40 * d ≤ R.locals) : CallB R s args own idx Mc.1 Mc.2.1 Mc.2.2.1 Mc.2.2.2 (.code Mc.1 Mc.2.1 Mc.2.2.1 Mc.2.2.2 :: dt_tbl) (dt_rm d mc ms) mc ms n := by
  refine callB_of n ht (fun w hw => ?_) rfl rfl rfl (ht _ h.2.2.1) (ht _ h.1) ⟨h.2.2.2.1.1, h.2.2.2.1.2, h.2.2.2.2⟩ hR
  rcases List.mem_cons.mp hw with rfl | hw
  · exact dt_good _ h.2.1
  · exact dt_good _ hw
theorem dt_callV {Mc : dt_MD} {idx n d mc ms a ci : Nat} {av : List dt_MV} {tags : List Nat} {q : vw_C} {stk : List dt_MV} {Q : Option dt_MV → List dt_Shp → dt_Mem → Prop} (hd : decode M.2.1 pc = .ok (.invokevirtual idx, 3)) (hw : dt_wv M.1.cls idx Mc n) (hs : sh[a]? = some (.inl (ci, tags))) (hc : dt_cls[ci]? = some q) (hq : q.1 = Mc.1.cls) (sp : dt_Sp Mc d mc ms (dt_R a :: av) sh σ Q) (hst : stk = av.reverse ++ dt_R a :: st) (hn : av.length = n) (hR : d + 1 ≤ R.frames ∧ 8 + (Mc.2.2.1 + 11) + 40 * d ≤ R.locals) (hr : (st.map dt_ct).sum ≤ 8) (hf : kc + mc ≤ R.cells ∧ ks + ms ≤ R.slots)
    (kk : ∀ v sh' σ', Q v sh' σ' → dt_V M R C (kc + mc) (ks + ms) (pc + 3) ls (v.toList ++ st) sh' σ') : dt_V M R C kc ks pc ls stk sh σ := by
  intro p l e s m args below meth c D dA S B H locs lsA Z F X P hS L
  subst hst
  have hp := dt_pre (av := dt_R a :: av) F P hS
  refine dt_run (ls := ls) F X hS L (va_runV (As := av.map (dt_tr B S)) (n := n) ⟨F.1, F.2.1, F.2.2.1, F.2.2.2.2.1, F.2.2.2.2.2.2.1⟩ (sp l D dA S B) ⟨dt_cb hw.1 F.2.2.2.2.2.2.1 hR, F.2.2.2.2.2.2.1 _ hw.2.1, F.2.2.2.2.2.2.1 _ hw.2.2⟩ ⟨hp.1, ?_, hp.2⟩ rfl (by rw [List.length_map]; exact hn) L.1 ?_ (lv_room (by rw [dt_ct_sum]; exact hr)) hd hf) kk
  · rw [← hq]
    exact dt_rcv F.2.2.2.2.2.2.2.2.1 P hs hc
  · simp [F0, dt_tr]
theorem dt_callO {Mc : dt_MD} {idx n d mc ms a ci : Nat} {x : MethodName} {owner : String} {av : List dt_MV} {tags : List Nat} {q : vw_C} {stk : List dt_MV} {Q : Option dt_MV → List dt_Shp → dt_Mem → Prop} (hd : decode M.2.1 pc = .ok (.invokevirtual idx, 3)) (hs : sh[a]? = some (.inl (ci, tags))) (hc : dt_cls[ci]? = some q) (hw : dt_wo M.1.cls idx q.1 owner x Mc n) (sp : dt_Sp Mc d mc ms (dt_R a :: av) sh σ Q) (hst : stk = av.reverse ++ dt_R a :: st) (hn : av.length = n) (hR : d + 1 ≤ R.frames ∧ 8 + (Mc.2.2.1 + 11) + 40 * d ≤ R.locals) (hr : (st.map dt_ct).sum ≤ 8) (hf : kc + mc ≤ R.cells ∧ ks + ms ≤ R.slots)
    (kk : ∀ v sh' σ', Q v sh' σ' → dt_V M R C (kc + mc) (ks + ms) (pc + 3) ls (v.toList ++ st) sh' σ') : dt_V M R C kc ks pc ls stk sh σ := by
  intro p l e s m args below meth c D dA S B H locs lsA Z F X P hS L
  subst hst
  have hp := dt_pre (av := dt_R a :: av) F P hS
  obtain ⟨w1, w2, w3, w4, w5, w6, w7, ⟨b0, m0, r0, w8⟩, w9, w10⟩ := hw
  have hG : GoodIn dt_tbl (.code Mc.1 Mc.2.1 Mc.2.2.1 Mc.2.2.2 :: dt_tbl) := fun w hw => by
    rcases List.mem_cons.mp hw with rfl | hw
    · exact dt_good _ w6
    · exact dt_good _ hw
  have hT : GoodIn dt_tbl (va_wsO M.1.cls idx q.1 owner x Mc.1 (.code Mc.1 Mc.2.1 Mc.2.2.1 Mc.2.2.2 :: dt_tbl)) := fun w hw => by
    unfold va_wsO at hw
    rcases List.mem_append.mp hw with hw | hw
    · simp only [List.mem_cons, List.not_mem_nil, or_false] at hw
      rcases hw with rfl | rfl | rfl | rfl | rfl | rfl
      · exact dt_good _ w1
      · exact dt_good _ w2
      · exact dt_good _ w7
      · exact dt_good _ w3
      · exact dt_good _ w4
      · exact dt_good _ w5
    · exact hG _ hw
  refine dt_run (ls := ls) F X hS L (va_runU (As := av.map (dt_tr B S)) (n := n) ⟨F.1, F.2.1, F.2.2.1, F.2.2.2.2.1, F.2.2.2.2.2.2.1⟩ (sp l D dA S B) (va_cwO n F.2.2.2.2.2.2.1 hT rfl rfl rfl w8 ⟨w9.1, w9.2, w10⟩ hR) ⟨hp.1, dt_rcv F.2.2.2.2.2.2.2.2.1 P hs hc, hp.2⟩ rfl (by rw [List.length_map]; exact hn) L.1 ?_ (lv_room (by rw [dt_ct_sum]; exact hr)) hd hf) kk
  simp [F0, dt_tr]
theorem dt_callSU {Mc : dt_MD} {idx n d mc ms a ci : Nat} {av : List dt_MV} {tags : List Nat} {q : vw_C} {stk : List dt_MV} {Q : Option dt_MV → List dt_Shp → dt_Mem → Prop} (hd : decode M.2.1 pc = .ok (.invokespecial idx, 3)) (hs : sh[a]? = some (.inl (ci, tags))) (hc : dt_cls[ci]? = some q) (hw : dt_wsu M.1.cls idx Mc n) (sp : dt_Sp Mc d mc ms (dt_R a :: av) sh σ Q) (hst : stk = av.reverse ++ dt_R a :: st) (hn : av.length = n) (hR : d + 1 ≤ R.frames ∧ 8 + (Mc.2.2.1 + 11) + 40 * d ≤ R.locals) (hr : (st.map dt_ct).sum ≤ 8) (hf : kc + mc ≤ R.cells ∧ ks + ms ≤ R.slots)
    (kk : ∀ v sh' σ', Q v sh' σ' → dt_V M R C (kc + mc) (ks + ms) (pc + 3) ls (v.toList ++ st) sh' σ') : dt_V M R C kc ks pc ls stk sh σ := by
  intro p l e s m args below meth c D dA S B H locs lsA Z F X P hS L
  subst hst
  have hp := dt_pre (av := dt_R a :: av) F P hS
  obtain ⟨wb, w1, w2, w3, w4⟩ := hw
  have hT : GoodIn dt_tbl (va_wsSU M.1.cls idx Mc.1 (.code Mc.1 Mc.2.1 Mc.2.2.1 Mc.2.2.2 :: dt_tbl)) := fun w hw => by
    unfold va_wsSU at hw
    rcases List.mem_append.mp hw with hw | hw
    · simp only [List.mem_cons, List.not_mem_nil, or_false] at hw
      rcases hw with rfl | rfl | rfl | rfl | rfl
      · exact dt_good _ wb.1
      · exact dt_good _ w2
      · exact dt_good _ w3
      · exact dt_good _ w1
      · exact dt_good _ wb.2.2.1
    · rcases List.mem_cons.mp hw with rfl | hw
      · exact dt_good _ wb.2.1
      · exact dt_good _ hw
  refine dt_run (ls := ls) F X hS L (va_runSU (As := av.map (dt_tr B S)) (n := n) (F.2.2.2.2.2.2.2.2.1.1 ci q hc).2 ⟨F.1, F.2.1, F.2.2.1, F.2.2.2.2.1, F.2.2.2.2.2.2.1⟩ (sp l D dA S B) (va_cwSU n F.2.2.2.2.2.2.1 hT rfl rfl rfl ⟨w4, wb.2.2.2.2⟩ hR) ⟨hp.1, dt_rcv F.2.2.2.2.2.2.2.2.1 P hs hc, hp.2⟩ rfl (by rw [List.length_map]; exact hn) L.1 ?_ (lv_room (by rw [dt_ct_sum]; exact hr)) hd hf) kk
  simp [F0, dt_tr]
theorem dt_callS {Mc : dt_MD} {idx n d mc ms : Nat} {av : List dt_MV} {stk : List dt_MV} {Q : Option dt_MV → List dt_Shp → dt_Mem → Prop} (hd : decode M.2.1 pc = .ok (.invokestatic idx, 3)) (hw : dt_wst M.1.cls idx Mc n) (sp : dt_Sp Mc d mc ms av sh σ Q) (hst : stk = av.reverse ++ st) (hn : av.length = n) (hR : d + 1 ≤ R.frames ∧ 8 + (Mc.2.2.1 + 11) + 40 * d ≤ R.locals) (hr : (st.map dt_ct).sum ≤ 8) (hf : kc + mc ≤ R.cells ∧ ks + ms ≤ R.slots)
    (kk : ∀ v sh' σ', Q v sh' σ' → dt_V M R C (kc + mc) (ks + ms) (pc + 3) ls (v.toList ++ st) sh' σ') : dt_V M R C kc ks pc ls stk sh σ := by
  intro p l e s m args below meth c D dA S B H locs lsA Z F X P hS L
  subst hst
  refine dt_run (ls := ls) F X hS L (va_runS (As := av.map (dt_tr B S)) (n := n) ⟨F.1, F.2.1, F.2.2.1, F.2.2.2.2.1, F.2.2.2.2.2.2.1⟩ (sp l D dA S B) ⟨dt_cb hw.1 F.2.2.2.2.2.2.1 hR, F.2.2.2.2.2.2.1 _ hw.2⟩ (dt_pre (av := av) F P hS) rfl (by rw [List.length_map]; exact hn) L.1 ?_ (lv_room (by rw [dt_ct_sum]; exact hr)) hd hf) kk
  simp [F0]
theorem dt_callI {Mc : dt_MD} {idx n d mc ms a : Nat} {av : List dt_MV} {stk : List dt_MV} {Q : Option dt_MV → List dt_Shp → dt_Mem → Prop} (hd : decode M.2.1 pc = .ok (.invokespecial idx, 3)) (hw : dt_wi M.1.cls idx Mc n) (sp : dt_Sp Mc d mc ms (dt_R a :: av) sh σ Q) (hst : stk = av.reverse ++ dt_R a :: st) (hn : av.length = n) (hR : d + 1 ≤ R.frames ∧ 8 + (Mc.2.2.1 + 11) + 40 * d ≤ R.locals) (hr : (st.map dt_ct).sum ≤ 8) (hf : kc + mc ≤ R.cells ∧ ks + ms ≤ R.slots)
    (kk : ∀ v sh' σ', Q v sh' σ' → dt_V M R C (kc + mc) (ks + ms) (pc + 3) ls (v.toList ++ st) sh' σ') : dt_V M R C kc ks pc ls stk sh σ := by
  intro p l e s m args below meth c D dA S B H locs lsA Z F X P hS L
  subst hst
  obtain ⟨wb, w1, w2, w3⟩ := hw
  have hb := dt_cb (R := R) (d := d) (mc := mc) (ms := ms) wb F.2.2.2.2.2.2.1 hR
  have hm := sp l D dA S B
  rw [w3] at hb hm
  refine dt_run (ls := ls) F X hS L (va_runI (As := av.map (dt_tr B S)) (n := n) ⟨F.1, F.2.1, F.2.2.1, F.2.2.2.2.1, F.2.2.2.2.2.2.1⟩ hm ⟨hb, w2, F.2.2.2.2.2.2.1 _ w1⟩ (dt_pre (av := dt_R a :: av) F P hS) rfl (by rw [List.length_map]; exact hn) L.1 ?_ (lv_room (by rw [dt_ct_sum]; exact hr)) hd hf) kk
  simp [F0, dt_tr]
theorem dt_obj {idx : Nat} {a : Nat} (hd : decode M.2.1 pc = .ok (.invokespecial idx, 3)) (hw : Cond.methodLink M.1.cls idx Lib.objectInit ∈ dt_tbl) (hw2 : Cond.instanceMethod Lib.objectInit ∈ dt_tbl) (hw3 : Cond.code Lib.objectInit ⟨#[0xb1]⟩ 1 none ∈ dt_tbl) (h1 : 1 ≤ R.frames) (h2 : (st.map dt_ct).sum + 12 ≤ R.locals) (k : dt_V M R C kc ks (pc + 3) ls st sh σ) : dt_V M R C kc ks pc ls (dt_R a :: st) sh σ := by
  intro p l e s m args below meth c D dA S B H locs lsA Z F X P hS L
  exact W.objInit F.1 F.2.1 F.2.2.2.2.1 (F.2.2.2.2.2.2.1 _ hw) (F.2.2.2.2.2.2.1 _ hw2) (F.2.2.2.2.2.2.1 _ hw3) rfl (L.1.trans F.2.2.1.symm) rfl hd h1 (by rw [dt_ct_sum]; show 2 * 0 + _ + 12 ≤ _; omega) (k p l e s m args below meth c D dA S B H locs lsA Z F X P hS L)
/-! which class -/
theorem dt_instY {idx a ci : Nat} {nm : String} {q : vw_C} {tags : List Nat} (hd : decode M.2.1 pc = .ok (.instanceof idx, 3)) (hw : Cond.classLink M.1.cls idx nm ∈ dt_tbl) (hs : sh[a]? = some (.inl (ci, tags))) (hc : dt_cls[ci]? = some q) (h : q.1 = nm ∨ (q.1, nm) ∈ dt_cst) (k : dt_V M R C kc ks (pc + 3) ls (dt_I 1 :: st) sh σ) : dt_V M R C kc ks pc ls (dt_R a :: st) sh σ := by
  intro p l e s m args below meth c D dA S B H locs lsA Z F X P hS L
  rcases h with h | h
  · exact va_instE F.1 F.2.1 F.2.2.2.2.1 (F.2.2.2.2.2.2.1 _ hw) (by rw [← h]; exact dt_rcv F.2.2.2.2.2.2.2.2.1 P hs hc) hd (k p l e s m args below meth c D dA S B H locs lsA Z F X P hS L)
  · exact va_instY F.1 F.2.1 F.2.2.2.2.1 (F.2.2.2.2.2.2.1 _ hw) (F.2.2.2.2.2.2.2.2.2.1.2.2.2.2.1 _ h) (dt_rcv F.2.2.2.2.2.2.2.2.1 P hs hc) hd (k p l e s m args below meth c D dA S B H locs lsA Z F X P hS L)
theorem dt_instN {idx a ci : Nat} {nm : String} {q : vw_C} {tags : List Nat} (hd : decode M.2.1 pc = .ok (.instanceof idx, 3)) (hw : Cond.classLink M.1.cls idx nm ∈ dt_tbl) (hs : sh[a]? = some (.inl (ci, tags))) (hc : dt_cls[ci]? = some q) (h : (q.1, nm) ∈ dt_nct) (k : dt_V M R C kc ks (pc + 3) ls (dt_I 0 :: st) sh σ) : dt_V M R C kc ks pc ls (dt_R a :: st) sh σ := by
  intro p l e s m args below meth c D dA S B H locs lsA Z F X P hS L
  exact va_instNo F.1 F.2.1 F.2.2.2.2.1 (F.2.2.2.2.2.2.1 _ hw) (F.2.2.2.2.2.2.2.2.2.1.2.2.2.2.2 _ h) (dt_rcv F.2.2.2.2.2.2.2.2.1 P hs hc) hd (k p l e s m args below meth c D dA S B H locs lsA Z F X P hS L)
/-! Math.min, System.arraycopy -/
theorem dt_min {idx : Nat} {x y : Int} (hd : decode M.2.1 pc = .ok (.invokestatic idx, 3)) (hw1 : Cond.methodLink M.1.cls idx Lib.Math.min.name ∈ dt_tbl) (hw2 : Cond.static Lib.Math.min.name ∈ dt_tbl) (hw3 : Cond.initialized "java/lang/Math" ∈ dt_tbl) (hw4 : Cond.code Lib.Math.min.name Lib.Math.min.code 2 (some .int) ∈ dt_tbl) (h1 : 1 ≤ R.frames) (h2 : (st.map dt_ct).sum + 13 ≤ R.locals) (h3 : kc ≤ R.cells) (h4 : ks ≤ R.slots) (hx : dt_in32 x) (hy : dt_in32 y) (k : dt_V M R C kc ks (pc + 3) ls (dt_I (if y < x then y else x) :: st) sh σ) : dt_V M R C kc ks pc ls (dt_I y :: dt_I x :: st) sh σ := by
  intro p l e s m args below meth c D dA S B H locs lsA Z F X P hS L
  have hts := F.2.2.2.2.2.2.1
  refine va_mmin F.1 F.2.1 (F.2.2.1.trans L.1.symm) F.2.2.2.2.1 (hts _ hw1) (hts _ hw2) (hts _ hw3) (hts _ hw4) h1 (by rw [dt_ct_sum]; exact h2) h3 h4 hd ?_
  have h := (k p l e s m args below meth c D dA S B H locs lsA Z F X P hS L)
  have e : (if Int32.ofInt y < Int32.ofInt x then Int32.ofInt y else Int32.ofInt x) = Int32.ofInt (if y < x then y else x) := by
    by_cases hc : y < x
    · rw [if_pos hc, if_pos ((dt_lt hy hx).mpr hc)]
    · rw [if_neg hc, if_neg (fun z => hc ((dt_lt hy hx).mp z))]
  rw [e]
  exact h
/-- a copied stretch -/
def dt_cp (σ : dt_Mem) (a b sp dp n : Nat) : dt_Mem := fun c j => if c = b then (if dp ≤ j ∧ j < dp + n then σ a (sp + (j - dp)) else σ b j) else σ c j
theorem dt_wf.cp {σ : dt_Mem} (h : dt_wf σ) {a b sp dp n : Nat} : dt_wf (dt_cp σ a b sp dp n) := by
  intro c j
  unfold dt_cp
  split
  · split
    · exact h a _
    · exact h b j
  · exact h c j
theorem dt_copy {idx a b ty n0 n1 : Nat} {sp dp n : Int} (hd : decode M.2.1 pc = .ok (.invokestatic idx, 3)) (hw1 : Cond.methodLink M.1.cls idx arraycopyName ∈ dt_tbl) (hw2 : Cond.native arraycopyName ∈ dt_tbl) (hw3 : Cond.static arraycopyName ∈ dt_tbl) (hw4 : Cond.initialized "java/lang/System" ∈ dt_tbl) (h1 : 1 ≤ R.frames) (h2 : (st.map dt_ct).sum + 40 ≤ R.locals) (ha : sh[a]? = some (.inr (ty, n0))) (hb : sh[b]? = some (.inr (ty, n1))) (hty : ty = 0 ∨ (ty = 1 ∧ ∀ i, i < n0 → σ a i = 0 ∨ σ a i = 1)) (g0 : n0 ≤ 1000000) (g1 : n1 ≤ 1000000) (hs0 : 0 ≤ sp) (hd0 : 0 ≤ dp) (hn0 : 0 ≤ n) (hs1 : sp + n ≤ n0) (hd1 : dp + n ≤ n1) (k : dt_V M R C kc ks (pc + 3) ls st sh (dt_cp σ a b sp.toNat dp.toNat n.toNat)) : dt_V M R C kc ks pc ls (dt_I n :: dt_I dp :: dt_R b :: dt_I sp :: dt_R a :: st) sh σ := by
  intro p l e s m args below meth c D dA S B H locs lsA Z F X P hS L
  have hts := F.2.2.2.2.2.2.1
  have hK := F.2.2.2.2.2.2.2.2.1
  have is : dt_in32 sp := ⟨by omega, by omega⟩
  have id' : dt_in32 dp := ⟨by omega, by omega⟩
  have i_n : dt_in32 n := ⟨by omega, by omega⟩
  have hnw : nativeFrameWords "java/lang/System" "arraycopy" 5 + 11 ≤ 40 := by decide +kernel
  intro T hT Y
  have hc0 : H[B + a]? = some (vp_cell (dA ty) (n0, .inl (fun j => Int32.ofInt (σ a j)))) := P.2.2 a _ (dt_ws_at ha)
  have hc1 : H[B + b]? = some (vp_cell (dA ty) (n1, .inl (fun j => Int32.ofInt (σ b j)))) := P.2.2 b _ (dt_ws_at hb)
  obtain ⟨fty, hfty, hprim, hfits⟩ : ∃ fty : FieldType, (∃ t0 : Nat, ([(dA 0, FieldType.int), (dA 1, .boolean)] : List (ClassId × FieldType))[t0]? = some (dA ty, fty)) ∧ refKind fty = false ∧ ∀ i, i < n0 → fits fty (.int (Int32.ofInt (σ a i))) = true := by
    rcases hty with rfl | ⟨rfl, hz⟩
    · exact ⟨.int, ⟨0, rfl⟩, rfl, fun _ _ => rfl⟩
    · exact ⟨.boolean, ⟨1, rfl⟩, rfl, fun i hi => by rcases hz i hi with h | h <;> rw [h] <;> decide⟩
  obtain ⟨t0, ht0⟩ := hfty
  obtain ⟨-, k0, hk0, cm0, hkk0⟩ := (hK.2 t0 _ ht0).1 n0 (fun j => .int (Int32.ofInt (σ a j)))
  obtain ⟨-, k1, hk1, cm1, hkk1⟩ := (hK.2 t0 _ ht0).1 n1 (fun j => .int (Int32.ofInt (σ b j)))
  have f0 : ∀ z : Int, dt_in32 z → 0 ≤ z → ¬ Int32.ofInt z < 0 := fun z hz h => by rw [dt_0, dt_lt hz dt_z]; omega
  obtain ⟨vm', Y', step⟩ := Y.arraycopy F.1 F.2.2.2.2.1 (hts _ hw1) (hts _ hw2) (hts _ hw3) (hts _ hw4) (src := B + a) (dst := B + b) (cs := vp_cell (dA ty) (n0, .inl (fun j => Int32.ofInt (σ a j)))) (cd := vp_cell (dA ty) (n1, .inl (fun j => Int32.ofInt (σ b j)))) (srcPos := Int32.ofInt sp) (destPos := Int32.ofInt dp) (n := Int32.ofInt n) (by rw [hT]; exact hc0) (by rw [hT]; exact hc1)
    (fun _ h => by cases h) (fun _ h => by cases h) (fun h => by cases h) (fun h => by cases h) hk0 hk1 hkk0 hkk1 (by simp [hprim]) (f0 sp is hs0) (f0 dp id' hd0) (f0 n i_n hn0)
    (by rw [dt_toInt is, dt_toInt i_n]; show ¬ _ > ((arrV (dA ty) n0 _).slots.size : Int); rw [arrV_size]; omega)
    (by rw [dt_toInt id', dt_toInt i_n]; show ¬ _ > ((arrV (dA ty) n1 _).slots.size : Int); rw [arrV_size]; omega)
    (fun vm₁ _ i hi => by
      rw [dt_cl i_n] at hi
      have e : (vp_cell (dA ty) (n0, .inl (fun j => Int32.ofInt (σ a j)))).slots.getD ((Int32.ofInt sp).toNatClampNeg + i) .null = .int (Int32.ofInt (σ a (sp.toNat + i))) := by
        show (arrV (dA ty) n0 _).slots.getD _ _ = _
        rw [Array.getD_eq_getD_getElem?, dt_cl is, arrV_read _ _ (by omega)]
        rfl
      refine ⟨?_, ?_⟩
      · rw [e]
        exact hfits _ (by omega)
      · rw [e]
        exact trivial)
    (g := F0 m pc lsA (.int (Int32.ofInt n) :: .int (Int32.ofInt dp) :: .ref (B + b) :: .int (Int32.ofInt sp) :: .ref (B + a) :: st.map (dt_tr B S))) rfl (by rw [F.2.2.1]; exact L.1) (rest := st.map (dt_tr B S)) rfl (by rw [F.2.1]; exact hd) h1 (by rw [dt_ct_sum]; show 2 * 0 + _ + (nativeFrameWords "java/lang/System" "arraycopy" 5 + 11) ≤ _; omega)
  have e1 : copied (vp_cell (dA ty) (n0, .inl (fun j => Int32.ofInt (σ a j)))) (vp_cell (dA ty) (n1, .inl (fun j => Int32.ofInt (σ b j)))) (Int32.ofInt sp) (Int32.ofInt dp) (Int32.ofInt n) = vp_cell (dA ty) (n1, .inl (va_cpy (fun j => Int32.ofInt (σ a j)) (fun j => Int32.ofInt (σ b j)) (Int32.ofInt sp).toNatClampNeg (Int32.ofInt dp).toNatClampNeg (Int32.ofInt n).toNatClampNeg)) := va_copied (fun z => Value.int z) (dA ty) (dA ty) (fun j => Int32.ofInt (σ a j)) (fun j => Int32.ofInt (σ b j)) (show (Int32.ofInt sp).toNatClampNeg + (Int32.ofInt n).toNatClampNeg ≤ n0 by rw [dt_cl is, dt_cl i_n]; omega)
  rw [e1, dt_cl is, dt_cl id', dt_cl i_n] at Y' step
  have hl : B + b < H.size := (Array.getElem?_eq_some_iff.mp hc1).1
  have hlb : b < sh.length := (List.getElem?_eq_some_iff.mp hb).1
  obtain ⟨cell', hcell'⟩ : ∃ z, z = vp_cell (dA ty) (n1, .inl (va_cpy (fun j => Int32.ofInt (σ a j)) (fun j => Int32.ofInt (σ b j)) sp.toNat dp.toNat n.toNat)) := ⟨_, rfl⟩
  rw [← hcell'] at Y' step
  have hheap : ((T.setVm vm').setCell (B + b) cell').heap = H.setIfInBounds (B + b) cell' := by rw [← hT]; rfl
  have oq : ∀ q : Nat, q ≠ B + b → (H.setIfInBounds (B + b) cell')[q]? = H[q]? := fun q hq => by simp [Array.getElem?_setIfInBounds, Ne.symm hq]
  have P2 : dt_Rep B S D dA sh (dt_cp σ a b sp.toNat dp.toNat n.toNat) (H.setIfInBounds (B + b) cell') := by
    refine ⟨P.1.cp, by rw [Array.size_setIfInBounds]; exact P.2.1, ?_⟩
    rw [← dt_ws_set (σ := σ) (x := .inr (ty, n1)) hlb (dt_set_self hb).symm (fun c hc => by unfold dt_cp; funext j; rw [if_neg hc])]
    refine P.2.2.set dt_ws_D (dt_ws_at hb) ?_ oq
    show (H.setIfInBounds (B + b) cell')[B + b]? = some (vp_cell _ _)
    rw [hcell']
    simp only [Array.getElem?_setIfInBounds, hl, if_true]
    congr 3
    refine congrArg Sum.inl (funext fun j => ?_)
    simp only [va_cpy, dt_cp, if_true]
    split <;> rfl
  obtain ⟨t, a1, b1⟩ := k p l e s m args below meth c D dA S B _ _ lsA Z F X P2 ⟨by rw [Array.size_setIfInBounds]; exact hS.1, fun q g1 g2 => by
      rw [oq q (fun e => g2 (by rw [e]; omega))]
      exact hS.2.1 q g1 g2, fun q hq => by
      rcases List.mem_append.mp hq with h | h
      · exact hS.2.2 q h
      · obtain ⟨z, -, hz⟩ := List.mem_map.mp h
        rw [← hz]
        show B ≤ B + b
        omega⟩ L _ hheap Y'
  exact ⟨t, step t a1, b1⟩
/-! String constants: text i is dt_S (2 i), its bytes dt_S (2 i + 1) -/
theorem dt_sval {idx i : Nat} (hi : i < 8) (hd : decode M.2.1 pc = .ok (.getfield idx, 3)) (hw : Cond.fieldLink M.1.cls idx "java/lang/String" "value" "[B" ∈ dt_tbl) (k : dt_V M R C kc ks (pc + 3) ls (dt_S (2 * i + 1) :: st) sh σ) : dt_V M R C kc ks pc ls (dt_S (2 * i) :: st) sh σ := by
  intro p l e s m args below meth c D dA S B H locs lsA Z F X P hS L
  exact vk_getf F.1 F.2.1 (F.2.2.2.2.2.2.2.2.2.1.1.1 i hi).2.2.1 hS F.2.2.2.2.1 (F.2.2.2.2.2.2.1 _ hw) (fun _ h => h) hd (k p l e s m args below meth c D dA S B H locs lsA Z F X P hS L)
theorem dt_scod {idx i : Nat} (hi : i < 8) (hd : decode M.2.1 pc = .ok (.getfield idx, 3)) (hw : Cond.fieldLink M.1.cls idx "java/lang/String" "coder" "B" ∈ dt_tbl) (k : dt_V M R C kc ks (pc + 3) ls (dt_I 0 :: st) sh σ) : dt_V M R C kc ks pc ls (dt_S (2 * i) :: st) sh σ := by
  intro p l e s m args below meth c D dA S B H locs lsA Z F X P hS L
  exact vk_getf F.1 F.2.1 (F.2.2.2.2.2.2.2.2.2.1.1.1 i hi).2.1 hS F.2.2.2.2.1 (F.2.2.2.2.2.2.1 _ hw) (fun _ h => h) hd (k p l e s m args below meth c D dA S B H locs lsA Z F X P hS L)
theorem dt_slen {i : Nat} (hi : i < 8) (hd : decode M.2.1 pc = .ok (.arraylength, 1)) (k : dt_V M R C kc ks (pc + 1) ls (dt_I (dt_ln.getD i 0) :: st) sh σ) : dt_V M R C kc ks pc ls (dt_S (2 * i + 1) :: st) sh σ := by
  intro p l e s m args below meth c D dA S B H locs lsA Z F X P hS L
  exact va_tlen F.1 F.2.1 (F.2.2.2.2.2.2.2.2.2.1.1.1 i hi).2.2.2 hS Int32.ofInt_eq_ofNat.symm hd (k p l e s m args below meth c D dA S B H locs lsA Z F X P hS L)
theorem dt_sbld {i : Nat} {j : Int} (hi : i < 8) (hd : decode M.2.1 pc = .ok (.baload, 1)) (h0 : 0 ≤ j) (h1 : j < (dt_ln.getD i 0 : Nat)) (h2 : ((dt_ln.getD i 0 : Nat) : Int) ≤ 2147483647) (k : dt_V M R C kc ks (pc + 1) ls (dt_I (((dt_bt.getD i []).getD j.toNat 0).toInt) :: st) sh σ) : dt_V M R C kc ks pc ls (dt_I j :: dt_S (2 * i + 1) :: st) sh σ := by
  intro p l e s m args below meth c D dA S B H locs lsA Z F X P hS L
  have hj : dt_in32 j := ⟨by omega, by omega⟩
  exact va_tb F.1 F.2.1 (F.2.2.2.2.2.2.2.2.2.1.1.1 i hi).2.2.2 hS (dt_vpin hj h0 h1) (v := .int (Int32.ofInt ((dt_bt.getD i []).getD j.toNat 0).toInt)) (by rw [dt_cl hj, Int32.ofInt_toInt]) hd (k p l e s m args below meth c D dA S B H locs lsA Z F X P hS L)
theorem dt_scpt {idx : Nat} (hd : decode M.2.1 pc = .ok (.getstatic idx, 3)) (hw : Cond.fieldLink M.1.cls idx "java/lang/String" "COMPACT_STRINGS" "Z" ∈ dt_tbl) (k : dt_V M R C kc ks (pc + 3) ls (dt_I 1 :: st) sh σ) : dt_V M R C kc ks pc ls st sh σ := by
  intro p l e s m args below meth c D dA S B H locs lsA Z F X P hS L
  exact va_gets F.1 F.2.1 F.2.2.2.2.2.2.2.2.2.1.2.2.1 hS F.2.2.2.2.1 (F.2.2.2.2.2.2.1 _ hw) (fun _ h => h) hd (k p l e s m args below meth c D dA S B H locs lsA Z F X P hS L)
theorem dt_callStr {Mc : dt_MD} {idx n d mc ms i : Nat} {av : List dt_MV} {stk : List dt_MV} {Q : Option dt_MV → List dt_Shp → dt_Mem → Prop} (hi : i < 8) (hd : decode M.2.1 pc = .ok (.invokevirtual idx, 3)) (hw : dt_wv M.1.cls idx Mc n) (hq : Mc.1.cls = "java/lang/String") (sp : dt_Sp Mc d mc ms (dt_S (2 * i) :: av) sh σ Q) (hst : stk = av.reverse ++ dt_S (2 * i) :: st) (hn : av.length = n) (hR : d + 1 ≤ R.frames ∧ 8 + (Mc.2.2.1 + 11) + 40 * d ≤ R.locals) (hr : (st.map dt_ct).sum ≤ 8) (hf : kc + mc ≤ R.cells ∧ ks + ms ≤ R.slots)
    (kk : ∀ v sh' σ', Q v sh' σ' → dt_V M R C (kc + mc) (ks + ms) (pc + 3) ls (v.toList ++ st) sh' σ') : dt_V M R C kc ks pc ls stk sh σ := by
  intro p l e s m args below meth c D dA S B H locs lsA Z F X P hS L
  subst hst
  have hp := dt_pre (av := dt_S (2 * i) :: av) F P hS
  refine dt_run (ls := ls) F X hS L (va_runV (As := av.map (dt_tr B S)) (n := n) ⟨F.1, F.2.1, F.2.2.1, F.2.2.2.2.1, F.2.2.2.2.2.2.1⟩ (sp l D dA S B) ⟨dt_cb hw.1 F.2.2.2.2.2.2.1 hR, F.2.2.2.2.2.2.1 _ hw.2.1, F.2.2.2.2.2.2.1 _ hw.2.2⟩ ⟨hp.1, ?_, hp.2⟩ rfl (by rw [List.length_map]; exact hn) L.1 ?_ (lv_room (by rw [dt_ct_sum]; exact hr)) hd hf) kk
  · rw [hq]
    exact vk_recv (adK := fun i => S (2 * i)) (i := i) F.2.2.2.2.2.2.2.2.2.1.1 hi hS
  · simp [F0, dt_tr]
end DTS
