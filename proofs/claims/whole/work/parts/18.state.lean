
/-! the state of both, as one value: rows, tape, the port now, two images, fault, finding, trace -/
abbrev dR : Type := Nat → Option (Nat × List Int)
abbrev dS : Type := dR × List Nat × dX × (dX × dX) × Int × Int × List Int
abbrev sR (A : dS) : dR := A.1
abbrev sT (A : dS) : List Nat := A.2.1
abbrev sN (A : dS) : dX := A.2.2.1
abbrev sI (A : dS) : dX × dX := A.2.2.2.1
abbrev sF (A : dS) : Int := A.2.2.2.2.1
abbrev sS (A : dS) : Int := A.2.2.2.2.2.1
abbrev sC (A : dS) : List Int := A.2.2.2.2.2.2
def sSt (A : dS) (x : Int) : dS := (sR A, sT A, sN A, sI A, sF A, x, sC A)
def sRs (A : dS) (r : Nat) (o : Option (Nat × List Int)) (x : Int) : dS := (fun q => if q = r then o else sR A q, sT A, sN A, sI A, sF A, x, sC A)
def hRow (σ : dt_Mem) (a b c r : Nat) (o : Option (Nat × List Int)) : Prop := match o with
  | none => σ a r = -1
  | some q => σ a r = q.1 ∧ q.1 ≤ 2 ∧ σ b r = q.2.length ∧ q.2.length ≤ 40 ∧ ∀ (i : Nat) (x : Int), q.2[i]? = some x → σ c (r * 40 + i) = x
def cRows (σ : dt_Mem) (R : dR) : Prop := ∀ r, r < 8 → hRow σ 2 3 4 r (R r) ∧ (R r = none → σ 3 r = 0)
def rRows (σ : dt_Mem) (R : dR) : Prop := ∀ r, r < 8 → hRow σ 41 42 43 r (R r)
def cTape (σ : dt_Mem) (T : List Nat) : Prop := T.length ≤ 500 ∧ (∀ x ∈ T, x < 256) ∧ σ 5 1 = T.length ∧ ∀ (i x : Nat), T[i]? = some x → σ 6 i = x
def rTape (σ : dt_Mem) (T : List Nat) : Prop := σ 40 9 = T.length ∧ ∀ (i x : Nat), T[i]? = some x → σ 46 i = x
def nX (X : dX) : Prop := X.1 = [] → X = ([], [], 0)
def cP (σ : dt_Mem) (p : Nat) (X : dX) : Prop := cPort σ p X ∧ dX_ok X ∧ nX X
/-- the reference's row of numbers at o of cell a -/
def rPort (σ : dt_Mem) (a o : Nat) (X : dX) : Prop :=
  σ a o = X.1.length ∧ σ a (o + 1) = X.2.1.length ∧ σ a (o + 2) = X.2.2 ∧
  (∀ t tg, X.1[t]? = some tg → σ a (o + (3 + t)) = tg.length ∧ ∀ w wd, tg[w]? = some wd → σ a (o + (18 + 40 * t + 5 * w)) = wd.1 ∧ σ a (o + (18 + 40 * t + 5 * w + 1)) = wd.2.length ∧ ∀ (q r : Nat), wd.2[q]? = some r → σ a (o + (18 + 40 * t + 5 * w + 2 + q)) = r) ∧
  ∀ (i k : Nat), X.2.1[i]? = some k → σ a (o + (10 + i)) = k
def cTrace (ex : List dt_Shp) (σ : dt_Mem) (l : List Int) : Prop := (σ 0 8 = -1 ∧ l = []) ∨ ∃ (w ci : Nat) (tg : List Nat), σ 0 8 = w ∧ 55 ≤ w ∧ w < 2000000000 ∧ (dt_SH ++ ex)[w]? = some (.inl (ci, tg)) ∧ (ci = 0 ∨ ci = 1 ∨ ci = 2 ∨ ci = 3 ∨ ci = 5) ∧ tg = [0, 0, w + 1 + 4, 0, 0] ∧ (dt_SH ++ ex)[w + 1]? = some (.inr (0, 16)) ∧ l.length ≤ 16 ∧ σ w 3 = l.length ∧ ∀ (i : Nat) (x : Int), l[i]? = some x → σ (w + 1) i = x
def rTrace (σ : dt_Mem) (l : List Int) : Prop := σ 40 29 = l.length ∧ l.length ≤ 16 ∧ ∀ (i : Nat) (x : Int), l[i]? = some x → σ 54 i = x
def cInv (ex : List dt_Shp) (σ : dt_Mem) (A : dS) : Prop := cRows σ (sR A) ∧ cTape σ (sT A) ∧ cP σ 7 (sN A) ∧ cP σ 19 (sI A).1 ∧ cP σ 25 (sI A).2 ∧ σ 0 9 = sF A ∧ σ 0 10 = sS A ∧ cTrace ex σ (sC A)
def rInv (σ : dt_Mem) (A : dS) : Prop := rRows σ (sR A) ∧ rTape σ (sT A) ∧ (rPort σ 44 0 (sN A) ∧ σ 40 7 = dt_b ((sN A).1 ≠ [])) ∧ (((sI A).1.1 ≠ [] → rPort σ 53 0 (sI A).1) ∧ σ 52 0 = dt_b ((sI A).1.1 ≠ [])) ∧ (((sI A).2.1 ≠ [] → rPort σ 53 298 (sI A).2) ∧ σ 52 1 = dt_b ((sI A).2.1 ≠ [])) ∧ σ 40 10 = sF A ∧ σ 40 1 = sS A ∧ rTrace σ (sC A)
/-- what a call of the class's leaves -/
def cEnd (ex : List dt_Shp) (σ σ2 : dt_Mem) (A : dS) : Prop := cInv ex σ2 A ∧ ∀ b, 40 ≤ b → b < 55 → σ2 b = σ b
def rEnd (σ σ2 : dt_Mem) (A : dS) : Prop := rInv σ2 A ∧ ∀ b, (b < 40 ∨ 55 ≤ b) → σ2 b = σ b
theorem hRow.kept {σ σ' : dt_Mem} {a b c r : Nat} {o : Option (Nat × List Int)} (h : hRow σ a b c r o) (e1 : σ' a r = σ a r) (e2 : σ' b r = σ b r) (e3 : ∀ i, i < 40 → σ' c (r * 40 + i) = σ c (r * 40 + i)) : hRow σ' a b c r o := by
  cases o with
  | none => exact e1.trans h
  | some q =>
    obtain ⟨h1, h2, h3, h4, h5⟩ := h
    exact ⟨e1.trans h1, h2, e2.trans h3, h4, fun i x hx => by rw [e3 i (by have := dt_gl hx; omega)]; exact h5 i x hx⟩
theorem hRow.none {σ : dt_Mem} {a b c r : Nat} {o : Option (Nat × List Int)} (h : hRow σ a b c r o) (e : σ a r = -1) : o = none := by
  cases o with
  | none => rfl
  | some q => have := h.1; omega
theorem hRow.some {σ : dt_Mem} {a b c r : Nat} {o : Option (Nat × List Int)} (h : hRow σ a b c r o) (e : ¬ σ a r = -1) : ∃ q, o = some q ∧ σ a r = q.1 ∧ q.1 ≤ 2 ∧ σ b r = q.2.length ∧ q.2.length ≤ 40 ∧ ∀ (i : Nat) (x : Int), q.2[i]? = some x → σ c (r * 40 + i) = x := by
  cases o with
  | none => exact absurd h e
  | some q => exact ⟨q, rfl, h⟩
theorem cRows.kept {σ σ' : dt_Mem} {R : dR} (h : cRows σ R) (e2 : σ' 2 = σ 2) (e3 : σ' 3 = σ 3) (e4 : σ' 4 = σ 4) : cRows σ' R := fun r hr => ⟨(h r hr).1.kept (by rw [e2]) (by rw [e3]) (fun i _ => by rw [e4]), fun g => by rw [e3]; exact (h r hr).2 g⟩
theorem rRows.kept {σ σ' : dt_Mem} {R : dR} (h : rRows σ R) (e2 : σ' 41 = σ 41) (e3 : σ' 42 = σ 42) (e4 : σ' 43 = σ 43) : rRows σ' R := fun r hr => (h r hr).kept (by rw [e2]) (by rw [e3]) (fun i _ => by rw [e4])
theorem cTape.kept {σ σ' : dt_Mem} {T : List Nat} (h : cTape σ T) (e5 : σ' 5 1 = σ 5 1) (e6 : σ' 6 = σ 6) : cTape σ' T := ⟨h.1, h.2.1, by rw [e5]; exact h.2.2.1, by rw [e6]; exact h.2.2.2⟩
theorem cP.kept {σ σ' : dt_Mem} {p : Nat} {X : dX} (h : cP σ p X) (e : ∀ b, p ≤ b → b ≤ p + 5 → σ' b = σ b) : cP σ' p X := ⟨h.1.kept e, h.2⟩
theorem cTrace.kept {ex : List dt_Shp} {σ σ' : dt_Mem} {l : List Int} (h : cTrace ex σ l) (e : σ' 0 8 = σ 0 8) (e2 : ∀ b, 55 ≤ b → σ' b = σ b) : cTrace ex σ' l := by
  rcases h with ⟨h1, h2⟩ | ⟨w, ci, tg, h1, h2, h3, h4, h5, h6, h7, h8, h9, h10⟩
  · exact Or.inl ⟨e.trans h1, h2⟩
  · exact Or.inr ⟨w, ci, tg, e.trans h1, h2, h3, h4, h5, h6, h7, h8, by rw [e2 w h2]; exact h9, by rw [e2 (w + 1) (by omega)]; exact h10⟩
theorem cInv.kept {ex : List dt_Shp} {σ σ' : dt_Mem} {A : dS} (h : cInv ex σ A) (e : ∀ b, (b < 40 ∨ 55 ≤ b) → σ' b = σ b) : cInv ex σ' A := by
  obtain ⟨h1, h2, h3, h4, h5, h6, h7, h8⟩ := h
  exact ⟨h1.kept (e 2 (by omega)) (e 3 (by omega)) (e 4 (by omega)), h2.kept (by rw [e 5 (by omega)]) (e 6 (by omega)), h3.kept (fun b _ _ => e b (by omega)), h4.kept (fun b _ _ => e b (by omega)), h5.kept (fun b _ _ => e b (by omega)), by rw [e 0 (by omega)]; exact h6, by rw [e 0 (by omega)]; exact h7, h8.kept (by rw [e 0 (by omega)]) (fun b hb => e b (by omega))⟩
theorem rPort.kept {σ σ' : dt_Mem} {a o : Nat} {X : dX} (h : rPort σ a o X) (e : σ' a = σ a) : rPort σ' a o X := by
  unfold rPort
  rw [e]
  exact h
theorem rInv.kept {σ σ' : dt_Mem} {A : dS} (h : rInv σ A) (e : ∀ b, 40 ≤ b → b < 55 → σ' b = σ b) : rInv σ' A := by
  obtain ⟨h1, h2, h3, h4, h5, h6, h7, h8⟩ := h
  refine ⟨h1.kept (e 41 (by omega) (by omega)) (e 42 (by omega) (by omega)) (e 43 (by omega) (by omega)), ⟨by rw [e 40 (by omega) (by omega)]; exact h2.1, by rw [e 46 (by omega) (by omega)]; exact h2.2⟩, ⟨h3.1.kept (e 44 (by omega) (by omega)), by rw [e 40 (by omega) (by omega)]; exact h3.2⟩, ⟨fun g => (h4.1 g).kept (e 53 (by omega) (by omega)), by rw [e 52 (by omega) (by omega)]; exact h4.2⟩, ⟨fun g => (h5.1 g).kept (e 53 (by omega) (by omega)), by rw [e 52 (by omega) (by omega)]; exact h5.2⟩, by rw [e 40 (by omega) (by omega)]; exact h6, by rw [e 40 (by omega) (by omega)]; exact h7, ⟨by rw [e 40 (by omega) (by omega)]; exact h8.1, h8.2.1, by rw [e 54 (by omega) (by omega)]; exact h8.2.2⟩⟩
/-- the class's finding -/
theorem cInv.st {ex : List dt_Shp} {σ : dt_Mem} {A : dS} (h : cInv ex σ A) (x : Int) : cInv ex (dt_up σ 0 10 x) (sSt A x) := by
  obtain ⟨h1, h2, h3, h4, h5, h6, h7, h8⟩ := h
  exact ⟨h1.kept (dt_up_o (by decide)) (dt_up_o (by decide)) (dt_up_o (by decide)), h2.kept (dt_up_n (by decide)) (dt_up_o (by decide)), h3.kept (fun b _ _ => dt_up_o (by omega)), h4.kept (fun b _ _ => dt_up_o (by omega)), h5.kept (fun b _ _ => dt_up_o (by omega)), (dt_up_k (by decide)).trans h6, dt_up_s, h8.kept (dt_up_k (by decide)) (fun b _ => dt_up_o (by omega))⟩
/-- other rows, a finding -/
theorem cInv.rows {ex : List dt_Shp} {σ σ' : dt_Mem} {A : dS} {R : dR} (h : cInv ex σ A) (x : Int) (hR : cRows σ' R) (e : ∀ b, b ≠ 2 → b ≠ 3 → b ≠ 4 → σ' b = σ b) : cInv ex (dt_up σ' 0 10 x) (R, sT A, sN A, sI A, sF A, x, sC A) := by
  obtain ⟨h1, h2, h3, h4, h5, h6, h7, h8⟩ := h
  exact ⟨hR.kept (dt_up_o (by decide)) (dt_up_o (by decide)) (dt_up_o (by decide)), h2.kept (by rw [dt_up_n (by decide), e 5 (by decide) (by decide) (by decide)]) (by rw [dt_up_o (by decide), e 6 (by decide) (by decide) (by decide)]), h3.kept (fun b _ _ => by rw [dt_up_o (by omega), e b (by omega) (by omega) (by omega)]), h4.kept (fun b _ _ => by rw [dt_up_o (by omega), e b (by omega) (by omega) (by omega)]), h5.kept (fun b _ _ => by rw [dt_up_o (by omega), e b (by omega) (by omega) (by omega)]), by rw [dt_up_k (by decide), e 0 (by decide) (by decide) (by decide)]; exact h6, dt_up_s, h8.kept (by rw [dt_up_k (by decide), e 0 (by decide) (by decide) (by decide)]) (fun b _ => by rw [dt_up_o (by omega), e b (by omega) (by omega) (by omega)])⟩
/-! what the calls on rows answer and leave -/
def oRow (A : dS) (r l n : Int) : Int × dS := if (¬ (0 ≤ r ∧ r < 8) ∨ ¬ (0 ≤ l ∧ l ≤ 2)) ∨ 40 < n then (-1000001, A) else if n < 0 then (-1000014, sSt A 4) else (n, sRs A r.toNat (some (l.toNat, List.replicate n.toNat 0)) 0)
def oSet (A : dS) (r i v : Int) : Int × dS := if ¬ (0 ≤ r ∧ r < 8) then (-1000001, A) else match sR A r.toNat with
  | none => (-1000011, sSt A 1)
  | some q => if 0 ≤ i ∧ i < q.2.length then (cLow q.1 v, sRs A r.toNat (some (q.1, q.2.set i.toNat (cLow q.1 v))) 0) else (-1000012, sSt A 2)
def oCopy (A : dS) (a i b j n : Int) : Int × dS := if ¬ (0 ≤ a ∧ a < 8) ∨ ¬ (0 ≤ b ∧ b < 8) then (-1000001, A) else match sR A a.toNat with
  | none => (-1000011, sSt A 1)
  | some qa => match sR A b.toNat with
    | none => (-1000011, sSt A 1)
    | some qb => if qa.1 ≠ qb.1 then (-1000015, sSt A 5) else if 0 ≤ i ∧ 0 ≤ j ∧ 0 ≤ n ∧ i + n ≤ qa.2.length ∧ j + n ≤ qb.2.length then (n, sRs A b.toNat (some (qb.1, qb.2.take j.toNat ++ ((qa.2.drop i.toNat).take n.toNat ++ qb.2.drop (j.toNat + n.toNat)))) 0) else (-1000012, sSt A 2)
def oDrop (A : dS) (r : Int) : Int × dS := if ¬ (0 ≤ r ∧ r < 8) then (-1000001, A) else match sR A r.toNat with
  | none => (-1000011, sSt A 1)
  | some q => (q.2.length, sRs A r.toNat none 0)
/-- one row anew -/
theorem cRows.put {σ σ' : dt_Mem} {R : dR} {r : Nat} {o : Option (Nat × List Int)} (h : cRows σ R) (ho : hRow σ' 2 3 4 r o ∧ (o = none → σ' 3 r = 0)) (e2 : ∀ q, q ≠ r → σ' 2 q = σ 2 q) (e3 : ∀ q, q ≠ r → σ' 3 q = σ 3 q) (e4 : ∀ k, (k < r * 40 ∨ r * 40 + 40 ≤ k) → σ' 4 k = σ 4 k) : cRows σ' (fun q => if q = r then o else R q) := by
  intro q hq
  by_cases hr : q = r
  · subst hr
    simp only [if_true]
    exact ho
  · simp only [if_neg hr]
    exact ⟨(h q hq).1.kept (e2 q hr) (e3 q hr) (fun i hi => e4 _ (by omega)), fun g => by rw [e3 q hr]; exact (h q hq).2 g⟩
theorem rRows.put {σ σ' : dt_Mem} {R : dR} {r : Nat} {o : Option (Nat × List Int)} (h : rRows σ R) (ho : hRow σ' 41 42 43 r o) (e2 : ∀ q, q ≠ r → σ' 41 q = σ 41 q) (e3 : ∀ q, q ≠ r → σ' 42 q = σ 42 q) (e4 : ∀ k, (k < r * 40 ∨ r * 40 + 40 ≤ k) → σ' 43 k = σ 43 k) : rRows σ' (fun q => if q = r then o else R q) := by
  intro q hq
  by_cases hr : q = r
  · subst hr
    simp only [if_true]
    exact ho
  · simp only [if_neg hr]
    exact (h q hq).kept (e2 q hr) (e3 q hr) (fun i hi => e4 _ (by omega))
theorem cInv.row {ex : List dt_Shp} {σ : dt_Mem} {A : dS} (h : cInv ex σ A) {r : Nat} (hr : r < 8) : hRow σ 2 3 4 r (sR A r) := (h.1 r hr).1
theorem rInv.row {σ : dt_Mem} {A : dS} (h : rInv σ A) {r : Nat} (hr : r < 8) : hRow σ 41 42 43 r (sR A r) := h.1 r hr
theorem dt_rep {n i : Nat} {x y : Int} (h : (List.replicate n x)[i]? = some y) : y = x := List.eq_of_mem_replicate (List.mem_of_getElem? h)
/-- the stretch that a copy leaves -/
theorem dt_spl {α : Type} {p q : List α} {i j n k : Nat} {x : α} (hi : i + n ≤ p.length) (hj : j + n ≤ q.length) (h : (q.take j ++ ((p.drop i).take n ++ q.drop (j + n)))[k]? = some x) : (j ≤ k ∧ k < j + n ∧ p[i + (k - j)]? = some x) ∨ ((k < j ∨ j + n ≤ k) ∧ q[k]? = some x) := by
  have l1 : (q.take j).length = j := by rw [List.length_take]; omega
  have l2 : ((p.drop i).take n).length = n := by rw [List.length_take, List.length_drop]; omega
  rcases Nat.lt_or_ge k j with g | g
  · rw [List.getElem?_append_left (by omega), List.getElem?_take_of_lt g] at h
    exact Or.inr ⟨Or.inl g, h⟩
  · rw [List.getElem?_append_right (by omega), l1] at h
    rcases Nat.lt_or_ge (k - j) n with g2 | g2
    · rw [List.getElem?_append_left (by omega), List.getElem?_take_of_lt g2, List.getElem?_drop] at h
      exact Or.inl ⟨g, by omega, h⟩
    · rw [List.getElem?_append_right (by omega), l2, List.getElem?_drop] at h
      exact Or.inr ⟨Or.inr (by omega), by rw [show k = j + n + (k - j - n) by omega]; exact h⟩
theorem dt_spl_len {α : Type} {p q : List α} {i j n : Nat} (hi : i + n ≤ p.length) (hj : j + n ≤ q.length) : (q.take j ++ ((p.drop i).take n ++ q.drop (j + n))).length = q.length := by
  rw [List.length_append, List.length_append, List.length_take, List.length_take, List.length_drop, List.length_drop]
  omega
