/-! ===== the start: what the Statement gives, as the little machine has it ===== -/
theorem st_lw (i : Nat) {w : Cond} (h : tables_1[i]? = some w) : w ∈ lw_tbl := List.mem_append_right _ (List.mem_of_getElem? h)
theorem st_K {s : State} {args : Array Value} (hts : ∀ w ∈ dt_tbl, w.before args s = true) : ∃ (D : va_G) (dA : Nat → ClassId), va_K D dt_cls [(dA 0, .int), (dA 1, .boolean)] s := by
  have h0 : ∀ ci : Nat, ∃ q : ClassId × (Nat → Nat), ∀ w, dt_cls[ci]? = some w → u_Kn s w.1 w.2.1 w.2.2 q.1 q.2 := by
    intro ci
    match ci with
    | 0 => obtain ⟨c, i, h⟩ := u_known (C := RX0) (T := TX0) (N := 5) (n := 5) hts inX0 (hts _ pn_0.1); exact ⟨(c, i), fun w hw => by cases hw; exact h⟩
    | 1 => obtain ⟨c, i, h⟩ := u_known (C := RX1) (T := TX1) (N := 5) (n := 5) hts inX1 (hts _ pn_1.1); exact ⟨(c, i), fun w hw => by cases hw; exact h⟩
    | 2 => obtain ⟨c, i, h⟩ := u_known (C := RX2) (T := TX2) (N := 5) (n := 5) hts inX2 (hts _ pn_2.1); exact ⟨(c, i), fun w hw => by cases hw; exact h⟩
    | 3 => obtain ⟨c, i, h⟩ := u_known (C := RX3) (T := TX3) (N := 5) (n := 5) hts inX3 (hts _ pn_3.1); exact ⟨(c, i), fun w hw => by cases hw; exact h⟩
    | 4 => obtain ⟨c, i, h⟩ := u_known (C := RX4) (T := TX4) (N := 1) (n := 1) hts inX4 (hts _ pn_4.1); exact ⟨(c, i), fun w hw => by cases hw; exact h⟩
    | 5 => obtain ⟨c, i, h⟩ := u_known (C := RX5) (T := TX5) (N := 5) (n := 5) hts inX5 (hts _ pn_5.1); exact ⟨(c, i), fun w hw => by cases hw; exact h⟩
    | 6 => obtain ⟨c, i, h⟩ := u_known (C := RX6) (T := TX6) (N := 8) (n := 8) hts inX6 (hts _ pn_6.1); exact ⟨(c, i), fun w hw => by cases hw; exact h⟩
    | 7 => obtain ⟨c, i, h⟩ := u_known (C := RX7) (T := TX7) (N := 3) (n := 3) hts inX7 (hts _ pn_7.1); exact ⟨(c, i), fun w hw => by cases hw; exact h⟩
    | 8 => obtain ⟨c, i, h⟩ := u_known (C := RX8) (T := TX8) (N := 8) (n := 8) hts inX8 (hts _ pn_8.1); exact ⟨(c, i), fun w hw => by cases hw; exact h⟩
    | 9 => obtain ⟨c, i, h⟩ := u_known (C := RX9) (T := TX9) (N := 5) (n := 5) hts inX9 (hts _ pn_9.1); exact ⟨(c, i), fun w hw => by cases hw; exact h⟩
    | 10 => obtain ⟨c, i, h⟩ := u_known (C := RX10) (T := TX10) (N := 4) (n := 4) hts inX10 (hts _ pn_10.1); exact ⟨(c, i), fun w hw => by cases hw; exact h⟩
    | 11 => obtain ⟨c, i, h⟩ := u_known (C := RX11) (T := TX11) (N := 11) (n := 11) hts inX11 (hts _ pn_11.1); exact ⟨(c, i), fun w hw => by cases hw; exact h⟩
    | 12 => obtain ⟨c, i, h⟩ := u_known (C := RX12) (T := TX12) (N := 30) (n := 30) hts inX12 (hts _ pn_12.1); exact ⟨(c, i), fun w hw => by cases hw; exact h⟩
    | n + 13 => exact ⟨(0, fun _ => 0), fun w hw => absurd hw (by simp [dt_cls])⟩
  obtain ⟨ad, had⟩ := Classical.axiomOfChoice h0
  obtain ⟨c1, k1, p1, f1, f2, f3⟩ := Cond.arrayClass_spec (hts _ pa_I)
  obtain ⟨c2, k2, p2, g1, g2, g3⟩ := Cond.arrayClass_spec (hts _ pa_Z)
  refine ⟨(fun c => (ad c).1, fun c => (ad c).2), fun k => if k = 0 then c1 else c2, fun c q hq => had c q hq, fun k q hk => ?_⟩
  match k, hk with
  | 0, hk => cases hk; exact ⟨fun n z => ⟨(fun k h => by cases h), k1, f2, p1, f3⟩, f1⟩
  | 1, hk => cases hk; exact ⟨fun n z => ⟨(fun k h => by cases h), k2, g2, p2, g3⟩, g1⟩
  | n + 2, hk => simp at hk
def st_tm (i : Nat) : Term := .string "DayTongues$Tape" (dt_si i)
theorem st_1 : ∀ i ∈ List.range 8, Cond.exactly (st_tm i) "java/lang/String" ∈ flatC (Jvm.Cond.and given_1 narrow_1) := by decide +kernel
theorem st_2 : ∀ i ∈ List.range 8, Cond.eq (.field (st_tm i) "java/lang/String" "coder" "B") (.int 0) ∈ flatC (Jvm.Cond.and given_1 narrow_1) := by decide +kernel
theorem st_3 : ∀ i ∈ List.range 8, Cond.arrayOf (.field (st_tm i) "java/lang/String" "value" "[B") .byte ∈ flatC (Jvm.Cond.and given_1 narrow_1) := by decide +kernel
theorem st_4 : ∀ i ∈ List.range 8, Cond.eq (.length (.field (st_tm i) "java/lang/String" "value" "[B")) (.int (Int32.ofNat (dt_ln.getD i 0))) ∈ flatC (Jvm.Cond.and given_1 narrow_1) := by decide +kernel
theorem st_5 : ∀ i ∈ List.range 8, ∀ j ∈ List.range (dt_ln.getD i 0), Cond.eq (.elem (.field (st_tm i) "java/lang/String" "value" "[B") (.int (Int32.ofNat j))) (.int ((dt_bt.getD i []).getD j 0)) ∈ flatC (Jvm.Cond.and given_1 narrow_1) := by decide +kernel
theorem st_6 : ∀ i ∈ List.range 8, ∀ j ∈ List.range 8, i ≠ j → (Cond.not (Cond.eq (st_tm i) (st_tm j)) ∈ flatC (Jvm.Cond.and given_1 narrow_1) ∨ Cond.not (Cond.eq (st_tm j) (st_tm i)) ∈ flatC (Jvm.Cond.and given_1 narrow_1)) := by decide +kernel
theorem st_7 : ∀ q ∈ dt_nct, Cond.not (.castable q.1 q.2) ∈ flatC (Jvm.Cond.and given_1 narrow_1) := by decide +kernel
theorem st_8 : Cond.eq (.static "java/lang/String" "COMPACT_STRINGS" "Z") (.int 1) ∈ flatC (Jvm.Cond.and given_1 narrow_1) := by decide +kernel
theorem st_9 : Cond.isRef (.static "jdk/internal/util/Preconditions" "SIOOBE_FORMATTER" "Ljava/util/function/BiFunction;") ∈ flatC (Jvm.Cond.and given_1 narrow_1) := by decide +kernel
theorem st_10 : ∀ i : Nat, i < 8 → Cond.stringRef "DayTongues$Tape" (dt_si i) (dt_tx i) ∈ lw_tbl := by
  intro i hi
  match i, hi with
  | 0, _ => exact st_lw 294 (by decide +kernel)
  | 1, _ => exact st_lw 363 (by decide +kernel)
  | 2, _ => exact st_lw 380 (by decide +kernel)
  | 3, _ => exact st_lw 381 (by decide +kernel)
  | 4, _ => exact st_lw 382 (by decide +kernel)
  | 5, _ => exact st_lw 383 (by decide +kernel)
  | 6, _ => exact st_lw 384 (by decide +kernel)
  | 7, _ => exact st_lw 415 (by decide +kernel)
  | n + 8, h => omega
theorem st_11 : ∀ q ∈ dt_cst, Cond.castable q.1 q.2 ∈ lw_tbl := by
  unfold dt_cst
  refine List.forall_mem_cons.mpr ⟨st_lw 1378 (by decide +kernel), List.forall_mem_cons.mpr ⟨st_lw 1379 (by decide +kernel), List.forall_mem_cons.mpr ⟨st_lw 1380 (by decide +kernel), List.forall_mem_cons.mpr ⟨st_lw 1381 (by decide +kernel), fun _ h => absurd h List.not_mem_nil⟩⟩⟩⟩
theorem st_12 : ∀ i : Nat, i < 8 → dt_ln.getD i 0 < 2 ^ 31 := by
  intro i hi
  match i, hi with
  | 0, _ => decide
  | 1, _ => decide
  | 2, _ => decide
  | 3, _ => decide
  | 4, _ => decide
  | 5, _ => decide
  | 6, _ => decide
  | 7, _ => decide
  | n + 8, h => omega
theorem st_G {b : Nat} {s : State} (hts : ∀ w ∈ lw_tbl, w.before #[Value.ref b] s = true) (hgv : (Jvm.Cond.and given_1 narrow_1).before #[Value.ref b] s = true) : ∃ S : Nat → Nat, S 200 = b ∧ dt_GK S s.heap.size s s.heap := by
  have hs := flat_of_before _ hgv
  have hA : ∀ a : Nat, a < s.heap.size → ¬ (fun q : Nat => s.heap.size ≤ q) a := fun a h g => Nat.not_le.mpr h g
  obtain ⟨adK, adV, hE, hev⟩ := vk_Sof (args := #[Value.ref b]) (s := s) (N := 8) (tm := st_tm) (len := dt_ln) (byt := dt_bt) (A := fun q : Nat => s.heap.size ≤ q) st_12
    (fun i hi => hs _ (st_1 i (List.mem_range.mpr hi))) (fun i hi => hs _ (st_2 i (List.mem_range.mpr hi))) (fun i hi => hs _ (st_3 i (List.mem_range.mpr hi))) (fun i hi => hs _ (st_4 i (List.mem_range.mpr hi)))
    (fun i hi j hj => hs _ (st_5 i (List.mem_range.mpr hi) j (List.mem_range.mpr hj)))
    (fun i j hi hj hij => (st_6 i (List.mem_range.mpr hi) j (List.mem_range.mpr hj) hij).imp (hs _) (hs _)) hA
  have hZ1 : va_Z "java/lang/String" "COMPACT_STRINGS" "Z" (.int 1) (fun q : Nat => s.heap.size ≤ q) s s.heap := va_Zof (hts _ (st_lw 308 (by decide +kernel))) (hts _ (st_lw 9 (by decide +kernel))) (va_eqt (hs _ st_8)) hA
  have hZ2 := va_Zqof (hts _ (st_lw 324 (by decide +kernel))) (hts _ (st_lw 11 (by decide +kernel))) (hs _ st_9) hA
  have key : ∀ t : Nat, (∃ r : Option Nat, va_Z "jdk/internal/util/Preconditions" "SIOOBE_FORMATTER" "Ljava/util/function/BiFunction;" (va_rf r) (fun q : Nat => s.heap.size ≤ q) s s.heap ∧ (r = none ∨ r = some t)) → ∃ S : Nat → Nat, S 200 = b ∧ dt_GK S s.heap.size s s.heap := by
    intro t ht
    refine ⟨fun n => if n = 200 then b else if n = 16 then t else if n % 2 = 0 then adK (n / 2) else adV (n / 2), rfl, ?_⟩
    have e1 : ∀ i, i < 8 → (if 2 * i = 200 then b else if 2 * i = 16 then t else if 2 * i % 2 = 0 then adK (2 * i / 2) else adV (2 * i / 2)) = adK i := fun i hi => by
      rw [if_neg (by omega), if_neg (by omega), if_pos (by omega), show 2 * i / 2 = i by omega]
    have e2 : ∀ i, i < 8 → (if 2 * i + 1 = 200 then b else if 2 * i + 1 = 16 then t else if (2 * i + 1) % 2 = 0 then adK ((2 * i + 1) / 2) else adV ((2 * i + 1) / 2)) = adV i := fun i hi => by
      rw [if_neg (by omega), if_neg (by omega), if_neg (by omega), show (2 * i + 1) / 2 = i by omega]
    refine ⟨⟨fun i hi => ?_, fun i j hi hj e => hE.2 i j hi hj ((e1 i hi).symm.trans (e.trans (e1 j hj)))⟩, fun i hi => ?_, hZ1, ?_, fun q hq => va_Nw.of rfl (hts _ (st_11 q hq)), fun q hq => va_Nc.of (hs _ (st_7 q hq))⟩
    · dsimp only
      rw [e1 i hi, e2 i hi]
      exact hE.1 i hi
    · dsimp only
      rw [e1 i hi]
      exact vk_R.of (A := #[Value.ref b]) (hts _ (st_10 i hi)) (hev i hi)
    · exact ht
  rcases hZ2 with h | ⟨t, h⟩
  · exact key 0 ⟨none, h, Or.inl rfl⟩
  · exact key t ⟨some t, h, Or.inr rfl⟩
