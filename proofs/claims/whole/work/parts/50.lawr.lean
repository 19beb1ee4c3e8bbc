/-! THE CLAIM OUT OF ONE WALK OF THE LAW'S BODY. Your part is whole_start (and what it stands on); all else here is the same for every law, but numbers. -/
def R_law : String := "DayTonguesLaw"
def lw_P (b : Addr) (xs : List Int32) (args : Array Value) (s : State) : Prop := args = #[.ref b] ∧ s.IntsAt b xs ∧ xs.length ≤ 384 ∧ (Jvm.Cond.and given_1 narrow_1).before args s = true
def lw_Q (_ : Array Value) (s : State) (o : Outcome) (t : State) : Prop := o = .returned (some (.int 1)) ∧ Framed s o t [] 600000 7302250
def lw_Z (below : List Frame) (a : Array Value) (s : State) : State → Prop := fun t => ∃ o, t.status = .running ∧ Ended t below o ∧ lw_Q a s o t
/-- the law's own end, with 1 on the stack, nothing written that was there before, its room as the claim has it -/
theorem lw_ret {p : Program} {l : Launch} {e : Env} {s : State} {m : MethodId} {below : List Frame} {meth : Method} {c : Code} {b : Nat} (hx : p.tables.exec = Jvm.exec) (hb : c.code = code) (hr : meth.sig.returnType = ret) (hlocks : meth.locks = false) {pc : Nat} {H : Heap} {ls : Array Slot} (hdg : decode code pc = .ok (.ireturn, 1)) : W p l e room_1 s m #[Value.ref b] below meth c H [] 600000 7302250 (lw_Z below #[Value.ref b] s) (F0 m pc ls [.int 1]) := by
  intro T hT X
  obtain ⟨fs, hret, hrun, hended, hW, hframe⟩ := X.leave (v := some (.int 1)) (hlocks := hlocks) (fun h => by rw [hr] at h; cases h)
  have hmeth' : T.vm.method? m = some meth := X.method'
  refine ⟨T.setFrames fs, ?_, .returned (some (.int 1)), hrun, hended, rfl, ⟨_, rfl⟩, hW, hframe⟩
  jvm_step X.here [X.here.top, hx, hb, hdg, hmeth', hr, ret, narrow_b1]
  (try refine ⟨rfl, ?_⟩); (try refine ⟨rfl, ?_⟩)
  first | (intro acts; rw [hret _ acts rfl rfl rfl]) | rw [hret _ _ rfl rfl rfl]
  exact Steps.refl _
/-- what holds at the law's entry: the machine, the code, the tables' words (any of lw_tbl by 'hts w (by decide +kernel)'), the script of L ints xs at the cell b, what the Statement gives of the start (any of its parts by flat_of_before) -/
def lw_At (p : Program) (s : State) (m : MethodId) (meth : Method) (c : Code) (b L : Nat) (xs : Nat → Int32) : Prop :=
  p.tables.exec = Jvm.exec ∧ c.code = code ∧ meth.sig.returnType = ret ∧ c.maxLocals = 4 ∧ s.vm.findClass R_law = some m.cls ∧ (∀ w ∈ lw_tbl, w.before #[Value.ref b] s = true) ∧ va_X b L xs s s.heap ∧ b < s.heap.size ∧ meth.locks = false ∧ (Jvm.Cond.and given_1 narrow_1).before #[Value.ref b] s = true
/-- the law's walk: the script lies outside the world, under the name 200 -/
def dt_LC (b L : Nat) (xs : Nat → Int32) : dt_Cx := fun _ s _ args below _ _ S B Z => Z = lw_Z below #[Value.ref b] s ∧ args = #[Value.ref b] ∧ S 200 = b ∧ va_X b L xs s s.heap ∧ b < s.heap.size ∧ B = s.heap.size
def mLaw (nm : String) : dt_MD := (⟨"DayTonguesLaw", nm, "([I)Z"⟩, code, 4, ret)
section DTL
variable {nm : String} {b L : Nat} {xs : Nat → Int32} {kc ks pc : Nat} {ls : List (Option dt_MV)} {st : List dt_MV} {sh : List dt_Shp} {σ : dt_Mem}
theorem dt_lsld {i : Int} (hd : decode (mLaw nm).2.1 pc = .ok (.iaload, 1)) (h0 : 0 ≤ i) (h1 : i < L) (hL : L ≤ 384) (k : dt_V (mLaw nm) room_1 (dt_LC b L xs) kc ks (pc + 1) ls (dt_I (xs i.toNat).toInt :: st) sh σ) : dt_V (mLaw nm) room_1 (dt_LC b L xs) kc ks pc ls (dt_I i :: dt_S 200 :: st) sh σ := by
  intro p l e s m args below meth c D dA S B H locs lsA Z F X P hS L0
  obtain ⟨hZ, hargs, hS2, hX, hbl, hB⟩ := id X
  have hi : dt_in32 i := ⟨by omega, by omega⟩
  have kk := k p l e s m args below meth c D dA S B H locs lsA Z F X P hS L0
  have e1 : dt_tr B S (dt_I (xs i.toNat).toInt) = .int (xs i.toNat) := by show Value.int (Int32.ofInt (xs i.toNat).toInt) = _; rw [Int32.ofInt_toInt]
  rw [List.map_cons, e1] at kk
  show W _ _ _ _ _ _ _ _ _ _ _ _ _ _ _ (F0 m pc lsA (.int (Int32.ofInt i) :: .ref (S 200) :: st.map (dt_tr B S)))
  rw [hS2]
  refine va_sld F.1 F.2.1 hX hbl (by omega) hS (dt_vpin hi h0 h1) hd ?_
  rw [dt_cl hi]
  exact kk
theorem dt_lslen (hd : decode (mLaw nm).2.1 pc = .ok (.arraylength, 1)) (k : dt_V (mLaw nm) room_1 (dt_LC b L xs) kc ks (pc + 1) ls (dt_I (L : Int) :: st) sh σ) : dt_V (mLaw nm) room_1 (dt_LC b L xs) kc ks pc ls (dt_S 200 :: st) sh σ := by
  intro p l e s m args below meth c D dA S B H locs lsA Z F X P hS L0
  obtain ⟨hZ, hargs, hS2, hX, hbl, hB⟩ := id X
  have kk := k p l e s m args below meth c D dA S B H locs lsA Z F X P hS L0
  show W _ _ _ _ _ _ _ _ _ _ _ _ _ _ _ (F0 m pc lsA (.ref (S 200) :: st.map (dt_tr B S)))
  rw [hS2]
  exact va_slen F.1 F.2.1 hX hbl (by omega) hS hd kk
theorem dt_lend (hd : decode (mLaw nm).2.1 pc = .ok (.ireturn, 1)) (h1 : kc ≤ 600000) (h2 : ks ≤ 7302250) : dt_V (mLaw nm) room_1 (dt_LC b L xs) kc ks pc ls [dt_I 1] sh σ := by
  intro p l e s m args below meth c D dA S B H locs lsA Z F X P hS L0
  obtain ⟨hZ, hargs, hS2, hX, hbl, hB⟩ := id X
  subst hZ
  subst hargs
  refine W.widen h1 h2 (va_forget (fun q hq => by have := hS.2.2 q hq; omega) ?_)
  exact lw_ret F.1 F.2.1 F.2.2.2.1 F.2.2.2.2.2.2.2.1 hd
theorem dt_lsame {x : Int} {off : Int} {tgt : Nat} {M : dt_MD} {R : Room} {C : dt_Cx} (hd : decode M.2.1 pc = .ok (.if_icmp .eq off, 3)) (ht : (pc : Int) + off = (tgt : Int)) (k : dt_V M R C kc ks tgt ls st sh σ) : dt_V M R C kc ks pc ls (dt_I x :: dt_I x :: st) sh σ :=
  fun p l e s m args below meth c D dA S B H locs lsA Z F X P hS L => lv_icmp_eq F.1 F.2.1 hd ht (fun _ => k p l e s m args below meth c D dA S B H locs lsA Z F X P hS L) (fun q => absurd rfl q)
end DTL
theorem dt_t32 (x : Int32) : dt_in32 x.toInt := ⟨Int32.le_toInt _, Int32.toInt_lt _⟩
