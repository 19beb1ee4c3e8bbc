/-! ===== what a call leaves of the ports' years: y at the most; images only of a port that is there ===== -/
def pB (A : dS) (y : Nat) : Prop := (sN A).2.2 ≤ y ∧ (sI A).1.2.2 ≤ y ∧ (sI A).2.2.2 ≤ y ∧ ((sI A).1.1 ≠ [] ∨ (sI A).2.1 ≠ [] → (sN A).1 ≠ [])
def pBs (A : dS) (x : Int × dS) : Prop := sN x.2 = sN A ∧ sI x.2 = sI A
theorem pB.mono {A : dS} {y y' : Nat} (h : pB A y) (hy : y ≤ y') : pB A y' := ⟨Nat.le_trans h.1 hy, Nat.le_trans h.2.1 hy, Nat.le_trans h.2.2.1 hy, h.2.2.2⟩
theorem pB.same {A : dS} {x : Int × dS} {y : Nat} (h : pB A y) (e : pBs A x) : pB x.2 (y + 100) := by
  obtain ⟨e1, e2⟩ := e
  unfold pB
  rw [e1, e2]
  exact h.mono (by omega)
theorem cInv.ok {ex : List dt_Shp} {σ : dt_Mem} {A : dS} {y : Nat} (h : cInv ex σ A) (g : pB A y) : aOk A y := ⟨⟨h.2.2.1.2.1, h.2.2.1.2.2, g.1⟩, ⟨h.2.2.2.1.2.1, h.2.2.2.1.2.2, g.2.1⟩, ⟨h.2.2.2.2.1.2.1, h.2.2.2.2.1.2.2, g.2.2.1⟩, g.2.2.2⟩
theorem pBs_oRow (A : dS) (r l n : Int) : pBs A (oRow A r l n) := by
  unfold oRow
  repeat' (first | exact ⟨rfl, rfl⟩ | split)
theorem pBs_oSet (A : dS) (r i v0 : Int) : pBs A (oSet A r i v0) := by
  unfold oSet
  repeat' (first | exact ⟨rfl, rfl⟩ | split)
theorem pBs_oCopy (A : dS) (a i b j n : Int) : pBs A (oCopy A a i b j n) := by
  unfold oCopy
  repeat' (first | exact ⟨rfl, rfl⟩ | split)
theorem pBs_oDrop (A : dS) (r : Int) : pBs A (oDrop A r) := by
  unfold oDrop
  repeat' (first | exact ⟨rfl, rfl⟩ | split)
theorem pBs_oFeed (A : dS) (w n : Int) : pBs A (oFeed A w n) := by
  unfold oFeed
  repeat' (first | exact ⟨rfl, rfl⟩ | split)
theorem pBs_oWord (A : dS) (t w what : Int) : pBs A (oWord A t w what) := by
  unfold oWord
  repeat' (first | exact ⟨rfl, rfl⟩ | split)
theorem pBs_oKind (A : dS) (t w : Int) : pBs A (oKind A t w) := by
  unfold oKind
  repeat' (first | exact ⟨rfl, rfl⟩ | split)
theorem pBs_oWords (A : dS) (t : Int) : pBs A (oWords A t) := by
  unfold oWords
  repeat' (first | exact ⟨rfl, rfl⟩ | split)
theorem pBs_oKnows (A : dS) (p : Int) : pBs A (oKnows A p) := by
  unfold oKnows
  repeat' (first | exact ⟨rfl, rfl⟩ | split)
theorem pBs_oCount (A : dS) (w : Int) : pBs A (oCount A w) := by
  unfold oCount
  repeat' (first | exact ⟨rfl, rfl⟩ | split)
theorem pBs_oMeans (A : dS) (day r i n k : Int) : pBs A (oMeans A day r i n k) := by
  unfold oMeans
  repeat' (first | exact ⟨rfl, rfl⟩ | split)
theorem pBs_oShort (A : dS) (day m what k : Int) : pBs A (oShort A day m what k) := by
  unfold oShort
  repeat' (first | exact ⟨rfl, rfl⟩ | split)
theorem pBs_oSayable (A : dS) (day what : Int) : pBs A (oSayable A day what) := by
  unfold oSayable
  repeat' (first | exact ⟨rfl, rfl⟩ | split)
theorem pBs_oBargain (A : dS) (r m k : Int) : pBs A (oBargain A r m k) := by
  unfold oBargain
  repeat' (first | exact ⟨rfl, rfl⟩ | split)
theorem pBs_oUnder (A : dS) (day p s : Int) : pBs A (oUnder A day p s) := by
  unfold oUnder
  repeat' (first | exact ⟨rfl, rfl⟩ | split)
theorem pBs_oWeek (A : dS) (what : Int) : pBs A (oWeek A what) := by
  unfold oWeek
  repeat' (first | exact ⟨rfl, rfl⟩ | split)
theorem pBs_oLetIn (A : dS) (m : Int) : pBs A (oLetIn A m) := by
  unfold oLetIn
  repeat' (first | exact ⟨rfl, rfl⟩ | split)
theorem pBs_oDated (A : dS) (r i n m : Int) : pBs A (oDated A r i n m) := by
  unfold oDated
  repeat' (first | exact ⟨rfl, rfl⟩ | split)
theorem pBs_oAs (A : dS) (t w kd : Int) : pBs A (oAs A t w kd) := by
  unfold oAs
  repeat' (first | exact ⟨rfl, rfl⟩ | split)
theorem pBs_oAsk (A : dS) (t w what : Int) : pBs A (oAsk A t w what) := by
  unfold oAsk
  repeat' (first | exact ⟨rfl, rfl⟩ | split)
theorem pBs_oTrace (A : dS) (i : Int) : pBs A (oTrace A i) := by
  unfold oTrace
  repeat' (first | exact ⟨rfl, rfl⟩ | split)
theorem pB_port {A : dS} {y : Nat} (h : pB A y) : pB (oPort A).2 (y + 100) := by
  cases e : pPort (sT A) with
  | error z =>
    rw [oPort_e e]
    exact h.mono (by omega)
  | ok q =>
    rw [oPort_o e]
    exact ⟨Nat.zero_le _, Nat.le_trans h.2.1 (by omega), Nat.le_trans h.2.2.1 (by omega), fun _ => (pPort_ok e).1⟩
theorem pB_drift {A : dS} {y : Nat} (h : pB A y) (ok : dX_ok (sN A)) (n s : Int) : pB (oDrift A n s).2 (y + 100) := by
  unfold oDrift
  split
  · exact h.mono (by omega)
  · rename_i h0
    split
    · rename_i hn
      have hl : 0 < (sN A).1.length := List.length_pos_iff.mpr h0
      obtain ⟨-, a2, -, a4⟩ := xYears_ok n.toNat (sN A) s ok hl
      refine ⟨?_, Nat.le_trans h.2.1 (by omega), Nat.le_trans h.2.2.1 (by omega), fun _ => ?_⟩
      · show (xYears n.toNat (sN A) s).2.2 ≤ y + 100
        rw [a4]
        have := h.1
        omega
      · show (xYears n.toNat (sN A) s).1 ≠ []
        exact List.length_pos_iff.mp (by rw [a2]; exact hl)
    · exact h.mono (by omega)
theorem pB_image {A : dS} {y : Nat} (h : pB A y) (k : Int) : pB (oImage A k).2 (y + 100) := by
  unfold oImage
  split
  · split
    · exact h.mono (by omega)
    · rename_i h0
      obtain ⟨h1, h2, h3, h4⟩ := h.mono (show y ≤ y + 100 by omega)
      by_cases hk : k = 0
      · rw [if_pos hk]
        exact ⟨h1, h1, h3, fun _ => h0⟩
      · rw [if_neg hk]
        exact ⟨h1, h2, h1, fun _ => h0⟩
  · exact h.mono (by omega)
theorem pB_restore {A : dS} {y : Nat} (h : pB A y) (k : Int) : pB (oRestore A k).2 (y + 100) := by
  unfold oRestore
  split
  · split
    · exact h.mono (by omega)
    · rename_i h0
      obtain ⟨h1, h2, h3, h4⟩ := h.mono (show y ≤ y + 100 by omega)
      refine ⟨?_, h2, h3, fun _ => h0⟩
      show (sImK A k).2.2 ≤ y + 100
      unfold sImK
      split
      · exact h2
      · exact h3
  · exact h.mono (by omega)
theorem cInv.tl {ex : List dt_Shp} {σ : dt_Mem} {A : dS} (h : cInv ex σ A) : (sT A).length ≤ 500 ∧ ∀ x ∈ sT A, x < 256 := ⟨h.2.1.1, h.2.1.2.1⟩
/-! ===== the law's walk: its own rules ===== -/
