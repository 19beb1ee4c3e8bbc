/-- the law's first steps: both are made -/
theorem law_begin {nm : String} {b L : Nat} {xs : Nat → Int32} (hL : L ≤ 384) {σ : dt_Mem} : dt_V (mLaw nm) room_1 (dt_LC b L xs) 0 0 0 [some (dt_S 200), none, none, none] [] [] σ := by
  refine dt_new (ci := 11) (tags := [3, 3, 3, 3, 3, 3, 3, 3, 3, 0, 0]) dL_law_0 rfl pl_L_7 pn_11.1 pn_11.2 rfl kNew_11 (by show _ ≤ 600000; omega) (by show _ ≤ 7302250; omega) ?_
  dsimp only [List.cons_append, List.nil_append, List.length_cons, List.length_nil, Nat.reduceAdd]
  show dt_V _ _ _ _ _ 3 _ [dt_R 0] _ (dt_zr σ 0)
  refine dt_dupR dL_law_3 ?_
  refine dt_xI dL_law_4 pc_L_9 (s_X11_init (fun k => dt_zr_s)) rfl rfl ⟨by decide, by decide⟩ (Nat.le_of_ble_eq_true rfl) ⟨by show _ ≤ 600000; omega, by show _ ≤ 7302250; omega⟩ ?_
  intro v1 sh1 σ1 hq1
  obtain ⟨rfl, hs1, σ2, hk1, hm1, he1⟩ := hq1
  obtain rfl := hs1.symm
  have hC : cInv [] σ1 A0 := by rw [he1]; exact cInv_0 hk1 hm1
  refine dt_astoren dL_law_7 rfl (show 1 < 4 by decide) rfl ?_
  dsimp only [List.set]
  refine dt_new (ci := 12) (tags := [0, 0, 3, 3, 3, 3, 3, 0, 3, 0, 0, 0, 0, 0, 0, 0, 0, 0, 1, 3, 3, 3, 3, 3, 0, 0, 3, 3, 3, 0]) dL_law_8 rfl pl_L_10 pn_12.1 pn_12.2 rfl kNew_12 (by show _ ≤ 600000; omega) (by show _ ≤ 7302250; omega) ?_
  dsimp only [List.cons_append, List.nil_append, List.length_cons, List.length_nil, Nat.reduceAdd]
  show dt_V _ _ _ _ _ 11 _ [dt_R 40] _ (dt_zr σ1 40)
  refine dt_dupR dL_law_11 ?_
  refine dt_xI dL_law_12 pc_L_12 (s_X12_init (fun k => dt_zr_s)) rfl rfl ⟨by decide, by decide⟩ (Nat.le_of_ble_eq_true rfl) ⟨by show _ ≤ 600000; omega, by show _ ≤ 7302250; omega⟩ ?_
  intro v2 sh2 σ3 hq2
  obtain ⟨rfl, hs2, hk2, hm2⟩ := hq2
  obtain rfl := hs2.symm
  have hR : rInv σ3 A0 := rInv_0 hk2 hm2
  have hC2 : cInv [] σ3 A0 := by
    obtain ⟨h1, h2, h3, h4, h5, h6, h7, h8⟩ := hC
    have e : ∀ b, b < 40 → σ3 b = σ1 b := fun b hb => (hk2.1 b hb).trans (dt_zr_n (by omega))
    refine ⟨h1.kept (e 2 (by decide)) (e 3 (by decide)) (e 4 (by decide)), h2.kept (by rw [e 5 (by decide)]) (e 6 (by decide)), h3.kept (fun b _ _ => e b (by omega)), h4.kept (fun b _ _ => e b (by omega)), h5.kept (fun b _ _ => e b (by omega)), by rw [e 0 (by decide)]; exact h6, by rw [e 0 (by decide)]; exact h7, ?_⟩
    rcases h8 with ⟨q1, q2⟩ | ⟨w, ci, tg, q1, q2, q3, q4, q5, q6, q7, q8, q9, q10⟩
    · exact Or.inl ⟨by rw [e 0 (by decide)]; exact q1, q2⟩
    · rw [he1] at q1
      rw [dt_up_k (by decide), dt_up_k (by decide), dt_up_s] at q1
      omega
  refine dt_astoren dL_law_15 rfl (show 2 < 4 by decide) rfl ?_
  dsimp only [List.set]
  refine dt_iconst dL_law_16 ?_
  refine dt_istoren dL_law_17 rfl (show 3 < 4 by decide) rfl ?_
  dsimp only [List.set]
  have h := law_loop (nm := nm) (b := b) (L := L) (xs := xs) hL 401 0 [] σ3 A0 (by omega) (by omega) (by decide) hC2 hR ⟨Nat.zero_le _, Nat.zero_le _, Nat.zero_le _, fun g => absurd g (by simp [A0])⟩
  exact dt_wk (by omega) (by omega) h
theorem whole_start {p : Program} {e : Env} {s : State} {m : MethodId} {below : List Frame} {meth : Method} {c : Code} (l : Launch) (hflags : l.flags = flags0) {b L : Nat} {xs : Nat → Int32} (hL : L ≤ 384) (C0 : lw_At p s m meth c b L xs) : W p l e room_1 s m #[Value.ref b] below meth c s.heap [] 0 0 (lw_Z below #[Value.ref b] s) (entryFrame m ([Value.ref b] : List Value).toArray 4) := by
  obtain ⟨hx, hb, hr, hml, hown, hts, hX, hbl, hlocks, hgv⟩ := id C0
  have htd : ∀ w ∈ dt_tbl, w.before #[Value.ref b] s = true := fun w hw => hts w (List.mem_filter.mp hw).1
  obtain ⟨D, dA, hK⟩ := st_K htd
  obtain ⟨S, hS2, hG⟩ := st_G hts hgv
  rw [lg_entry_eq]
  have he := lv_entry ([.ref b]) (n := 4) (Nat.le_of_ble_eq_true rfl)
  refine law_begin (nm := meth.name) (b := b) (xs := xs) hL (σ := fun _ _ => 0) p l e s m _ below meth c D dA S s.heap.size s.heap [] _ _ ⟨hx, hb, hml, hr, hown, rfl, htd, hlocks, hK, hG, Nat.le_refl _⟩ ⟨rfl, rfl, hS2, hX, hbl, rfl⟩ ⟨fun a k => dt_z, rfl, fun k q h => by simp [dt_ws] at h⟩ va_S.rf ⟨he.1, he.2.1, fun i v hi => ?_⟩
  match i, hi with
  | 0, hi =>
    have e1 : dt_S 200 = v := Option.some.inj (Option.some.inj hi)
    rw [← e1]
    show _ = some (Slot.val (.ref (S 200)))
    rw [hS2]
    exact he.2.2 (0, .ref b) List.mem_cons_self
  | 1, hi => cases hi
  | 2, hi => cases hi
  | 3, hi => cases hi
  | n + 4, hi => simp at hi
set_option maxHeartbeats 4000000 in
theorem lw_walk (l : Launch) (hflags : l.flags = flags0) (b : Addr) (xs : List Int32) : MetFree l x (headSpec (Jvm.Cond.code x code maxLocals ret :: tables_1) room_1) (lw_P b xs) (fun _ _ _ _ _ => True) lw_Q := by
  refine MetFree.of_bodyS (code := code) (maxLocals := maxLocals) (ret := ret) (by decide) ?_ ?_
  · intro args s m h hn
    obtain ⟨meth, c, h1, h2, h3, h4, h5, h6, -, -⟩ := Cond.code_spec hn (atoms_spec (ws := Jvm.Cond.code x code maxLocals ret :: tables_1) h _ List.mem_cons_self)
    exact ⟨meth, c, h1, h2, h3, h4, h5, h6⟩
  · intro p e s m args below meth c s₁ B hml0 hP _
    obtain ⟨rfl, hx, hbd, hgv⟩ := hP
    obtain ⟨scr, harrAt, hlist, hof, hsmall⟩ := hx
    obtain ⟨hcb, hkn, -, -⟩ := State.arrayAt?_spec harrAt
    have hown : s.vm.findClass R_law = some m.cls := findClass_of_methodNamed B.named
    have hts0 : ∀ c ∈ (Jvm.Cond.code x code maxLocals ret :: tables_1), c.before #[Value.ref b] s = true := atoms_spec (ws := Jvm.Cond.code x code maxLocals ret :: tables_1) B.pre
    have hts : ∀ w ∈ lw_tbl, w.before #[Value.ref b] s = true := k2_hts_sels lw_privs (fun w hw => hts0 w (List.mem_cons_of_mem _ hw)) lw_privs_ok
    have hml : c.maxLocals = 4 := B.maxLocals_eq (hts0 _ List.mem_cons_self)
    have X₀ : Stand p l e room_1 s m #[Value.ref b] below meth c s₁ [] 0 0 := Stand.of_body B
    have hh0 : s₁.heap = s.heap := by rw [B.state]; rfl
    have hsz : scr.slots.size = xs.length := by rw [← Array.length_toList, hlist, List.length_map]
    have hval : ∀ j : Nat, j < xs.length → scr.slots[j]? = some (.int (xs.getD j 0)) := fun j hj => by
      rw [← Array.getElem?_toList, hlist]
      simp [hj]
    have hbl : b < s.heap.size := (Array.getElem?_eq_some_iff.mp hcb).1
    have hX : va_X b xs.length (fun j => xs.getD j 0) s s.heap := ⟨scr, hcb, hof, hkn, hsz, hval⟩
    have K : W p l e room_1 s m #[Value.ref b] below meth c s₁.heap [] 0 0 (lw_Z below #[Value.ref b] s) (entryFrame m ([Value.ref b] : List Value).toArray 4) := by
      rw [hh0]
      exact whole_start l hflags hbd ⟨B.exec, B.bytes, B.returns, hml, hown, hts, hX, hbl, B.notSynchronized, hgv⟩
    obtain ⟨t, a1, o, b1, b2, b3⟩ := K s₁ rfl X₀
    exact ⟨t, o, a1, b1, b2, b3⟩
theorem lw_pre_spec {args : Array Value} {s : State} (h : (Jvm.Cond.and given_1 narrow_1).before args s = true) (hr : rest_1_c.before args s = true) : ∃ (b : Addr) (xs : List Int32), lw_P b xs args s := by
  have hs := flat_of_before _ h
  have hq := flat_of_before _ hr
  have hc : (Cond.count 1).before args s = true := hs _ (by decide +kernel)
  have harr : (Cond.arrayOf (.arg 0) .int).before args s = true := hs _ (by decide +kernel)
  have hle : (Cond.le (.length (.arg 0)) (.int 384)).before args s = true := hs _ (by decide +kernel)
  have hlen : (Cond.isInt (.length (.arg 0))).before args s = true := hq _ (by decide +kernel)
  have hall : (Cond.all (.arg 0) (.isInt (.elem (.arg 0) (.index 0)))).before args s = true := hq _ (by decide +kernel)
  obtain ⟨b, xs, hb, hx⟩ := State.ints_of_pre rfl harr hlen hall
  have hsm : xs.length < 2 ^ 31 := hx.choose_spec.2.2.2
  have hev : (Term.length (.arg 0)).eval args s none [] s = some (.int xs.length.toInt32) := hx.length_eval hb
  have hv := Cond.le_ints hev (show (Term.int 384).eval args s none [] s = some (.int 384) from rfl)
  have hd : xs.length.toInt32 ≤ 384 := by
    simpa [Cond.before, Cond.holds, hv] using hle
  have hN : xs.length ≤ 384 := (Int32.ofNat_le_ofNat hsm (by decide)).mp (show Int32.ofNat xs.length ≤ Int32.ofNat 384 from hd)
  exact ⟨b, xs, Cond.one_arg hc (show args[0]? = some (.ref b) from hb), hx, hN, h⟩
theorem lw_comes (l : Launch) (hflags : l.flags = flags0) : Comes l x (Jvm.Cond.code x code maxLocals ret :: tables_1) room_1 (fun tb e args s => Calls_1 tb e args s ∧ rest_1 tb e args s ∧ Pre_1 tb e args s)
    (fun _ _ args s o t => lw_Q args s o t) := by
  intro p e ha hc hk s m args below hf hfit hheap happ hpre
  obtain ⟨b, xs, hP⟩ := lw_pre_spec hpre.2.2 hpre.2.1
  obtain ⟨k, o, h1, h2, h3, hQ⟩ := lw_walk l hflags b xs p e ha hc hk s m args below hf ((Spec.applies_iff_loose hf).mp happ).1 hP trivial
  exact ⟨k, o, h1, h2, h3, hQ⟩
theorem lw_frame {s t : State} {o : Outcome} {args : Array Value} (h : Framed s o t [] 600000 7302250) :
    Framed s o t (fieldLocs frame_1_writes args s ++ arrayLocs frame_1_arrays args s ++ staticLocs frame_1_statics s) 600000 7302250 := h
theorem lw_limb (L : Cond) (hL : ∀ (args : Array Value) (s t : State), L.after args s (.returned (some (.int 1))) t = true) :
    ArmFor flags0 classFile x code maxLocals ret World_1 tables_1 room_1 Calls_1 rest_1 Pre_1
      (fun tb e a s o t => postC L tb e a s o t ∧ Framed s o t (fieldLocs frame_1_writes a s ++ arrayLocs frame_1_arrays a s ++ staticLocs frame_1_statics s) 600000 7302250) := by
  intro l hflags _ _ p e ha hc hk s m args below hf hfit hheap happ hpre
  obtain ⟨k, o, h1, h2, h3, rfl, hF⟩ := lw_comes l hflags p e ha hc hk s m args below hf hfit hheap happ hpre
  exact ⟨k, _, h1, h2, h3, hL args s _, lw_frame hF⟩
theorem i_vc : Claimed_1_1 ∧ Claimed_1_2 := ⟨lw_limb limb_1_1 (fun args s t => by simp [limb_1_1, Cond.after, Cond.holds, Cond.value]), lw_limb limb_1_2 (fun args s t => Cond.after_iff.mpr (by
  first | (rw [show limb_1_2 = Cond.eq .result (.int 1) from rfl, Cond.eq_ints (x := 1) (y := 1) rfl rfl]; simp; done) | (simp [limb_1_2, Cond.value, Term.eval]; done)))⟩
