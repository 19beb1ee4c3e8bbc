
/-! the calls that look at ports -/
def sPt (A : dS) (X : dX) : dS := (sR A, sT A, X, sI A, sF A, sS A, sC A)
def sIm (A : dS) (I : dX × dX) : dS := (sR A, sT A, sN A, I, sF A, sS A, sC A)
def sTp (A : dS) (T : List Nat) : dS := (sR A, T, sN A, sI A, sF A, sS A, sC A)
/-- what holds of the state, y years at the most -/
def aOk (A : dS) (y : Nat) : Prop := (dX_ok (sN A) ∧ nX (sN A) ∧ (sN A).2.2 ≤ y) ∧ (dX_ok (sI A).1 ∧ nX (sI A).1 ∧ (sI A).1.2.2 ≤ y) ∧ (dX_ok (sI A).2 ∧ nX (sI A).2 ∧ (sI A).2.2.2 ≤ y) ∧ ((sI A).1.1 ≠ [] ∨ (sI A).2.1 ≠ [] → (sN A).1 ≠ [])
theorem dt_vb {c d : Prop} (h : c ↔ d) : some (dt_I (dt_b c)) = some (dt_I (dt_b d)) := by rw [dt_bc h]
def xAt (X : dX) (t w : Int) : Option (Nat × List Nat) := if 0 ≤ t ∧ 0 ≤ w then (X.1.getD t.toNat [])[w.toNat]? else none
theorem xAt_of {X : dX} {t w : Nat} {wd : Nat × List Nat} (h : xW X t w wd) : xAt X t w = some wd := by
  obtain ⟨tg, h1, h2⟩ := h
  unfold xAt
  rw [if_pos ⟨by omega, by omega⟩, Int.toNat_natCast, Int.toNat_natCast, dt_gd h1]
  exact h2
theorem xAt_sp {X : dX} {t w : Int} {wd : Nat × List Nat} (h : xAt X t w = some wd) : ∃ t' w' : Nat, t = t' ∧ w = w' ∧ xW X t' w' wd := by
  unfold xAt at h
  by_cases g : 0 ≤ t ∧ 0 ≤ w
  · rw [if_pos g] at h
    refine ⟨t.toNat, w.toNat, by omega, by omega, ?_⟩
    rcases Nat.lt_or_ge t.toNat X.1.length with l | l
    · obtain ⟨tg, e⟩ := dt_lg l
      rw [dt_gd e] at h
      exact ⟨tg, e, h⟩
    · have : X.1.getD t.toNat [] = [] := by
        show X.1[t.toNat]?.getD [] = []
        rw [List.getElem?_eq_none l]
        rfl
      rw [this] at h
      simp at h
  · rw [if_neg g] at h
    cases h
theorem xW_fun {X : dX} {t w : Nat} {a b : Nat × List Nat} (h : xW X t w a) (g : xW X t w b) : a = b := by
  have e := xAt_of h
  rw [xAt_of g] at e
  exact (Option.some.inj e).symm
theorem xAt_ne {X : dX} {t w : Int} (h : xAt X t w ≠ none) : ∃ (t' w' : Nat) (wd : Nat × List Nat), t = t' ∧ w = w' ∧ xW X t' w' wd := by
  cases e : xAt X t w with
  | none => exact absurd e h
  | some wd =>
    obtain ⟨t', w', a, b, c⟩ := xAt_sp e
    exact ⟨t', w', wd, a, b, c⟩
theorem xAt_no {X : dX} {t w : Int} (h : ¬ xAt X t w ≠ none) : xAt X t w = none := Classical.not_not.mp h
theorem cPort.at {σ : dt_Mem} {p : Nat} {X : dX} (h : cPort σ p X) (t w : Int) : cW σ p t w ↔ xAt X t w ≠ none := by
  constructor
  · intro g
    obtain ⟨t', w', wd, rfl, rfl, hw⟩ := h.ofW g
    rw [xAt_of hw]
    exact Option.some_ne_none _
  · intro g
    obtain ⟨t', w', wd, rfl, rfl, hw⟩ := xAt_ne g
    exact h.hasW hw
theorem cPort.no {σ : dt_Mem} {p : Nat} {X : dX} {t w : Int} (h : cPort σ p X) (c : ¬ cW σ p t w) : xAt X t w = none := Classical.not_not.mp (fun g => c ((h.at t w).mpr g))
theorem dX_ok.wd {X : dX} (h : dX_ok X) {t w : Nat} {wd : Nat × List Nat} (g : xW X t w wd) : t < X.1.length ∧ t < 7 ∧ w < 8 ∧ wdOk wd := by
  obtain ⟨tg, h1, h2⟩ := g
  have l1 := dt_gl h1
  have l2 := dt_gl h2
  have q := h.2.1 tg (List.mem_of_getElem? h1)
  exact ⟨l1, by have := h.1; omega, by have := q.1; omega, q.2 wd (List.mem_of_getElem? h2)⟩
def oWord (A : dS) (t w what : Int) : Int × dS := (match xAt (sN A) t w with
  | none => -1000001
  | some wd => if 0 ≤ what ∧ what ≤ 3 then (if what = 0 then (wd.2.length : Int) else if what ≤ wd.2.length then ((wd.2.getD (what - 1).toNat 0 : Nat) : Int) else -1000000) else -1000001, A)
def oKind (A : dS) (t w : Int) : Int × dS := (match xAt (sN A) t w with
  | none => -1000001
  | some wd => (wd.1 : Int), A)
def oWords (A : dS) (t : Int) : Int × dS := (if 0 ≤ t ∧ t < (sN A).1.length then ((((sN A).1.getD t.toNat []).length : Nat) : Int) else -1000001, A)
def oKnows (A : dS) (p : Int) : Int × dS := (if 0 ≤ p ∧ p < (sN A).2.1.length then (((sN A).2.1.getD p.toNat 0 : Nat) : Int) else -1000001, A)
def oDrift (A : dS) (n s : Int) : Int × dS := if (sN A).1 = [] then (-1000002, A) else if (1 ≤ n ∧ n ≤ 100) ∧ (1 ≤ s ∧ s ≤ 999999) then (((xYears n.toNat (sN A) s).2.2 : Nat), sPt A (xYears n.toNat (sN A) s)) else (-1000001, A)
def sImK (A : dS) (k : Int) : dX := if k = 0 then (sI A).1 else (sI A).2
def oImage (A : dS) (k : Int) : Int × dS := if 0 ≤ k ∧ k ≤ 1 then (if (sN A).1 = [] then (-1000002, A) else (1, sIm A (if k = 0 then (sN A, (sI A).2) else ((sI A).1, sN A)))) else (-1000001, A)
def oRestore (A : dS) (k : Int) : Int × dS := if 0 ≤ k ∧ k ≤ 1 then (if (sImK A k).1 = [] then (-1000002, A) else (1, sPt A (sImK A k))) else (-1000001, A)
def xMany (R : dR) : Nat → Int
  | 0 => 0
  | r + 1 => xMany R r + if R r = none then 0 else 1
theorem xMany_in (R : dR) : ∀ n : Nat, 0 ≤ xMany R n ∧ xMany R n ≤ n
  | 0 => ⟨Int.le_refl _, Int.le_refl _⟩
  | r + 1 => by
    have h := xMany_in R r
    unfold xMany
    split <;> omega
def oCount (A : dS) (w : Int) : Int × dS := (if w = 0 then xMany (sR A) 8 else if w = 1 then ((sN A).1.length : Nat) else if w = 2 then (xWords (sN A) : Nat) else if w = 3 then ((sN A).2.1.length : Nat) else if w = 4 then ((sN A).2.2 : Nat) else if w = 5 then ((sT A).length : Nat) else -1000001, A)
theorem cMany_x {σ : dt_Mem} {R : dR} (h : cRows σ R) : ∀ n : Nat, n ≤ 8 → cMany σ n = xMany R n
  | 0, _ => rfl
  | r + 1, hr => by
    have e := cMany_x h r (by omega)
    show cMany σ r + (if σ 2 r = -1 then 0 else 1) = xMany R r + if R r = none then 0 else 1
    rw [e]
    have q := (h r (by omega)).1
    by_cases g : σ 2 r = -1
    · rw [if_pos g, if_pos (q.none g)]
    · obtain ⟨o, ho, -⟩ := q.some g
      rw [if_neg g, if_neg (by rw [ho]; exact Option.some_ne_none _)]
theorem cP.ok {σ : dt_Mem} {p : Nat} {X : dX} (h : cP σ p X) : dX_ok X := h.2.1
theorem cInv.port {ex : List dt_Shp} {σ σ' : dt_Mem} {A : dS} {X : dX} (h : cInv ex σ A) (hX : cP σ' 7 X) (e : ∀ b, (b < 7 ∨ 12 < b) → σ' b = σ b) : cInv ex σ' (sPt A X) := by
  obtain ⟨h1, h2, h3, h4, h5, h6, h7, h8⟩ := h
  exact ⟨h1.kept (e 2 (by omega)) (e 3 (by omega)) (e 4 (by omega)), h2.kept (by rw [e 5 (by omega)]) (e 6 (by omega)), hX, h4.kept (fun b _ _ => e b (by omega)), h5.kept (fun b _ _ => e b (by omega)), by rw [e 0 (by omega)]; exact h6, by rw [e 0 (by omega)]; exact h7, h8.kept (by rw [e 0 (by omega)]) (fun b hb => e b (by omega))⟩
theorem cInv.im1 {ex : List dt_Shp} {σ σ' : dt_Mem} {A : dS} {X : dX} (h : cInv ex σ A) (hX : cP σ' 19 X) (e : ∀ b, (b < 19 ∨ 24 < b) → σ' b = σ b) : cInv ex σ' (sIm A (X, (sI A).2)) := by
  obtain ⟨h1, h2, h3, h4, h5, h6, h7, h8⟩ := h
  exact ⟨h1.kept (e 2 (by omega)) (e 3 (by omega)) (e 4 (by omega)), h2.kept (by rw [e 5 (by omega)]) (e 6 (by omega)), h3.kept (fun b _ _ => e b (by omega)), hX, h5.kept (fun b _ _ => e b (by omega)), by rw [e 0 (by omega)]; exact h6, by rw [e 0 (by omega)]; exact h7, h8.kept (by rw [e 0 (by omega)]) (fun b hb => e b (by omega))⟩
theorem cInv.im2 {ex : List dt_Shp} {σ σ' : dt_Mem} {A : dS} {X : dX} (h : cInv ex σ A) (hX : cP σ' 25 X) (e : ∀ b, (b < 25 ∨ 30 < b) → σ' b = σ b) : cInv ex σ' (sIm A ((sI A).1, X)) := by
  obtain ⟨h1, h2, h3, h4, h5, h6, h7, h8⟩ := h
  exact ⟨h1.kept (e 2 (by omega)) (e 3 (by omega)) (e 4 (by omega)), h2.kept (by rw [e 5 (by omega)]) (e 6 (by omega)), h3.kept (fun b _ _ => e b (by omega)), h4.kept (fun b _ _ => e b (by omega)), hX, by rw [e 0 (by omega)]; exact h6, by rw [e 0 (by omega)]; exact h7, h8.kept (by rw [e 0 (by omega)]) (fun b hb => e b (by omega))⟩
theorem dt_nn {α : Type} {l : List α} : l.length = 0 ↔ l = [] := List.length_eq_zero_iff
theorem xYear_y (T : List (List (Nat × List Nat))) (Y Y' : List Nat × Nat) (x : Int) : (xYear (T, Y) x).1.1 = (xYear (T, Y') x).1.1 ∧ (xYear (T, Y) x).2 = (xYear (T, Y') x).2 := by
  unfold xYear xSet
  dsimp only
  split
  · exact ⟨rfl, rfl⟩
  · split <;> exact ⟨rfl, rfl⟩
