
/-! shifts, packed names (checked by plain lean; x1: the shift's amount) -/
theorem lN_shl8 (v : Nat) : lN v <<< (8 : Int64) = lN (v * 256) := by
  apply Int64.toBitVec_inj.1
  show BitVec.ofNat 64 v <<< (BitVec.smod (8#64) 64#64) = BitVec.ofNat 64 (v * 256)
  rw [show BitVec.smod (8#64) 64#64 = 8#64 from by decide]
  apply BitVec.eq_of_toNat_eq
  simp only [BitVec.toNat_shiftLeft, BitVec.shiftLeft_eq', BitVec.toNat_ofNat, Nat.shiftLeft_eq]
  rw [show (2 : Nat) ^ (8 % 2 ^ 64) = 256 from by decide]
  omega
theorem dj_sh8 : ((Int32.ofInt 8).toInt64 &&& 63) = (8 : Int64) := by decide
theorem tRun_ok (p : Nat → Bool) (T : List Nat) : ∀ (n i : Nat), T.length - i ≤ n → i ≤ T.length → i ≤ tRun p T i ∧ tRun p T i ≤ T.length ∧ ∀ k, i ≤ k → k < tRun p T i → ∃ x, T[k]? = some x ∧ p x = true
  | n, i, hn, hi => by
    rcases Nat.lt_or_ge i T.length with hl | hl
    · have hx : T[i]? = some T[i] := List.getElem?_eq_getElem hl
      by_cases hp : p T[i] = true
      · cases n with
        | zero => omega
        | succ n =>
          obtain ⟨a, b, c⟩ := tRun_ok p T n (i + 1) (by omega) (by omega)
          rw [tRun_y hx hp]
          refine ⟨by omega, b, fun k h1 h2 => ?_⟩
          by_cases hk : k = i
          · subst hk; exact ⟨_, hx, hp⟩
          · exact c k (by omega) h2
      · rw [tRun_n hx hp]
        exact ⟨Nat.le_refl _, hi, fun k h1 h2 => by omega⟩
    · rw [tRun_e hl]
      exact ⟨Nat.le_refl _, hi, fun k h1 h2 => by omega⟩
def pkf (f : Nat → Nat) : Nat → Nat
  | 0 => 0
  | n + 1 => pkf f n * 256 + f n
theorem pkf_u (f g : Nat → Nat) : ∀ (n m : Nat), (∀ j, j < n → 1 ≤ f j ∧ f j < 256) → (∀ j, j < m → 1 ≤ g j ∧ g j < 256) → pkf f n = pkf g m → n = m ∧ ∀ j, j < n → f j = g j
  | 0, 0, _, _, _ => ⟨rfl, fun j h => absurd h (Nat.not_lt_zero j)⟩
  | 0, m + 1, _, hg, h => by
    have := hg m (by omega)
    simp only [pkf] at h
    omega
  | n + 1, 0, hf, _, h => by
    have := hf n (by omega)
    simp only [pkf] at h
    omega
  | n + 1, m + 1, hf, hg, h => by
    have a := hf n (by omega)
    have b := hg m (by omega)
    simp only [pkf] at h
    obtain ⟨e, k⟩ := pkf_u f g n m (fun j hj => hf j (by omega)) (fun j hj => hg j (by omega)) (by omega)
    subst e
    refine ⟨rfl, fun j hj => ?_⟩
    by_cases q : j = n
    · subst q; omega
    · exact k j (by omega)
theorem pkf_lt (f : Nat → Nat) : ∀ n, (∀ j, j < n → f j < 256) → pkf f n < 256 ^ n
  | 0, _ => Nat.zero_lt_one
  | n + 1, h => by
    have a := h n (by omega)
    have b := pkf_lt f n (fun j hj => h j (by omega))
    simp only [pkf, Nat.pow_succ]
    omega
theorem or8 (v x : Nat) (hx : x < 256) : (v * 256) ||| x = v * 256 + x := by
  have := Nat.shiftLeft_add_eq_or_of_lt (b := x) (i := 8) hx v
  rw [Nat.shiftLeft_eq] at this
  exact this.symm
/-! one reader of a port's text, for both: a fault is (kind, place) -/
abbrev Tok : Type := Nat × Nat × Nat
abbrev pR (α : Type) : Type := Except (Nat × Nat) α
def isN (T : List Nat) (t : Tok) (i : Nat) : Bool := decide (t.1 = 1 ∧ t.2.2 - t.2.1 = dt_ln.getD i 0 ∧ ∀ j, j < dt_ln.getD i 0 → ((T.getD (t.2.1 + j) 0 : Nat) : Int) = dt_ch i j)
theorem isN_i {T : List Nat} {t : Tok} {i : Nat} : isN T t i = true ↔ t.1 = 1 ∧ t.2.2 - t.2.1 = dt_ln.getD i 0 ∧ ∀ j, j < dt_ln.getD i 0 → ((T.getD (t.2.1 + j) 0 : Nat) : Int) = dt_ch i j := decide_eq_true_iff
def kTold (T : List Nat) (t : Tok) : Nat := if isN T t 2 = true then 1 else if isN T t 3 = true then 2 else if isN T t 4 = true then 3 else if isN T t 5 = true then 4 else if isN T t 6 = true then 5 else 0
def nV (T : List Nat) (b : Nat) : Nat → Nat
  | 0 => 0
  | n + 1 => nV T b n * 10 + (T.getD (b + n) 0 - 48)
def nT (T : List Nat) (t : Tok) : Nat := nV T t.2.1 (t.2.2 - t.2.1)
def pSemi (T : List Nat) (t : Tok) : pR Tok := if t.1 = 3 then .ok (tk T t.2.2) else .error (1, t.2.1)
def pReads (T : List Nat) (least : Nat) : Nat → List Nat → Tok → pR (List Nat × Tok)
  | 0, rs, t => .ok (rs, t)
  | left + 1, rs, t => if t.1 ≠ 2 then (if rs.length < least then .error (1, t.2.1) else .ok (rs, t)) else if nT T t < 1 ∨ 256 ≤ nT T t then .error (2, t.2.1) else pReads T least left (rs ++ [nT T t]) (tk T t.2.2)
def pWord (T : List Nat) (n : Nat) (t : Tok) : pR ((Nat × List Nat) × Tok) :=
  if 8 ≤ n then .error (3, t.2.1) else if kTold T (tk T t.2.2) = 0 then .error (1, (tk T t.2.2).2.1) else
  match pReads T (if kTold T (tk T t.2.2) = 4 then 2 else 1) (if 4 ≤ kTold T (tk T t.2.2) then 3 else 1) [] (tk T (tk T t.2.2).2.2) with
  | .error e => .error e
  | .ok q => match pSemi T q.2 with
    | .error e => .error e
    | .ok u => .ok ((kTold T (tk T t.2.2), q.1), u)
def pWords (T : List Nat) : Nat → List (Nat × List Nat) → Tok → pR (List (Nat × List Nat) × Tok)
  | 0, tg, t => .ok (tg, t)
  | f + 1, tg, t => if isN T t 1 = true then (match pWord T tg.length t with
    | .error e => .error e
    | .ok q => pWords T f (tg ++ [q.1]) q.2) else .ok (tg, t)
def pTongue (T : List Nat) (n : Nat) (t : Tok) : pR (List (Nat × List Nat) × Tok) := if 7 ≤ n then .error (3, t.2.1) else match pSemi T (tk T t.2.2) with
  | .error e => .error e
  | .ok u => pWords T 9 [] u
def pTongues (T : List Nat) : Nat → List (List (Nat × List Nat)) → Tok → pR (List (List (Nat × List Nat)) × Tok)
  | 0, Ts, t => .ok (Ts, t)
  | f + 1, Ts, t => if isN T t 0 = true then (match pTongue T Ts.length t with
    | .error e => .error e
    | .ok q => pTongues T f (Ts ++ [q.1]) q.2) else .ok (Ts, t)
def pPerson (T : List Nat) (m n : Nat) (t : Tok) : pR (Nat × Tok) := if 8 ≤ n then .error (3, t.2.1) else if (tk T t.2.2).1 ≠ 2 then .error (1, (tk T t.2.2).2.1) else if 2 ^ m ≤ nT T (tk T t.2.2) then .error (2, (tk T t.2.2).2.1) else match pSemi T (tk T (tk T t.2.2).2.2) with
  | .error e => .error e
  | .ok u => .ok (nT T (tk T t.2.2), u)
def pPersons (T : List Nat) (m : Nat) : Nat → List Nat → Tok → pR (List Nat × Tok)
  | 0, Ps, t => .ok (Ps, t)
  | f + 1, Ps, t => if isN T t 7 = true then (match pPerson T m Ps.length t with
    | .error e => .error e
    | .ok q => pPersons T m f (Ps ++ [q.1]) q.2) else .ok (Ps, t)
def pPort (T : List Nat) : pR (List (List (Nat × List Nat)) × List Nat) := if ¬ isN T (tk T 0) 0 = true then .error (1, (tk T 0).2.1) else match pTongues T 8 [] (tk T 0) with
  | .error e => .error e
  | .ok q => match pPersons T q.1.length 9 [] q.2 with
    | .error e => .error e
    | .ok p => if p.2.1 = 0 then .ok (q.1, p.1) else .error (1, p.2.2.1)
