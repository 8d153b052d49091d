/-! THE CASES PUT TOGETHER -/
theorem zany (x : Int32) : (-2147483648 : Int) ≤ x.toInt ∧ x.toInt ≤ (2147483647 : Int) := by
  have h1 := Int32.le_toInt x
  have h2 := Int32.toInt_lt x
  omega
theorem zhalf (x : Int32) : ((-2147483648 : Int) ≤ x.toInt ∧ x.toInt ≤ (-1 : Int)) ∨ ((0 : Int) ≤ x.toInt ∧ x.toInt ≤ (2147483647 : Int)) := by
  have h := zany x
  omega
theorem zof {x v : Int32} (h : x.toInt = v.toInt) : x = v := Int32.toInt_inj.mp h
theorem zpt {x v : Int32} (h : x = v) : v.toInt ≤ x.toInt ∧ x.toInt ≤ v.toInt := by
  rw [h]
  exact ⟨Int.le_refl _, Int.le_refl _⟩
theorem zval {x v : Int32} (h : x = v) : ∀ v9, some v = some v9 → x = v9 := fun v9 h9 => h.trans (Option.some.inj h9)
theorem znone {x : Int32} : ∀ v, (none : Option Int32) = some v → x = v := fun v h => nomatch h
theorem zsgn (x : Int32) : ((-2147483648 : Int) ≤ x.toInt ∧ x.toInt ≤ (-1 : Int)) ∨ x = 0 ∨ ((1 : Int) ≤ x.toInt ∧ x.toInt ≤ (2147483647 : Int)) := by
  have h := zany x
  by_cases h0 : x.toInt = 0
  · exact Or.inr (Or.inl (zof h0))
  · omega
theorem zlet (x : Int32) : ((-2147483648 : Int) ≤ x.toInt ∧ x.toInt ≤ (-1 : Int)) ∨ ((0 : Int) ≤ x.toInt ∧ x.toInt ≤ (25 : Int)) ∨ ((26 : Int) ≤ x.toInt ∧ x.toInt ≤ (2147483647 : Int)) := by
  have h := zany x
  omega
theorem zwhat (x : Int32) : ((-2147483648 : Int) ≤ x.toInt ∧ x.toInt ≤ (-1 : Int)) ∨ x = 0 ∨ x = 1 ∨ x = 2 ∨ x = 3 ∨ ((4 : Int) ≤ x.toInt ∧ x.toInt ≤ (2147483647 : Int)) := by
  have h := zany x
  by_cases h0 : x.toInt = 0
  · exact Or.inr (Or.inl (zof h0))
  · by_cases h1 : x.toInt = 1
    · exact Or.inr (Or.inr (Or.inl (zof h1)))
    · by_cases h2 : x.toInt = 2
      · exact Or.inr (Or.inr (Or.inr (Or.inl (zof h2))))
      · by_cases h3 : x.toInt = 3
        · exact Or.inr (Or.inr (Or.inr (Or.inr (Or.inl (zof h3)))))
        · omega
theorem zcf_ok {xs : Nat → Int32} {c : Int32} {l1 h1 l2 h2 : Int} {v1 v2 : Option Int32} (hc : xs 0 &&& 31 = c) (b1 : l1 ≤ (xs 1).toInt ∧ (xs 1).toInt ≤ h1) (b2 : l2 ≤ (xs 2).toInt ∧ (xs 2).toInt ≤ h2) (e1 : ∀ v, v1 = some v → xs 1 = v) (e2 : ∀ v, v2 = some v → xs 2 = v) : zcfok (some c, [(-2147483648, 2147483647), (l1, h1), (l2, h2)], 3, [none, v1, v2]) (zrh xs) := by
  refine ⟨fun v h => hc.trans (Option.some.inj h), fun u q h => ?_, rfl, rfl, rfl, rfl, fun k v h => ?_⟩
  · match u, h with
    | 0, h => obtain rfl := Option.some.inj h; exact zany (xs 0)
    | 1, h => obtain rfl := Option.some.inj h; exact b1
    | 2, h => obtain rfl := Option.some.inj h; exact b2
  · match k, h with
    | 0, h => exact nomatch (Option.some.inj h)
    | 1, h => exact e1 v (Option.some.inj h)
    | 2, h => exact e2 v (Option.some.inj h)
theorem zcf_L {xs : Nat → Int32} {L : Nat} : zcfok (none, [], L, []) (zrh xs) := ⟨fun v h => (nomatch h), fun u q h => (nomatch h), rfl, rfl, rfl, rfl, fun k v h => (nomatch h)⟩
theorem zcf_d {xs : Nat → Int32} (h18 : 18 ≤ (xs 0 &&& 31).toInt ∧ (xs 0 &&& 31).toInt ≤ 31) : zcfok (none, [(-2147483648, 2147483647), (-2147483648, 2147483647), (-2147483648, 2147483647), (-2147483648, 2147483647), (-2147483648, 2147483647), (-2147483648, 2147483647), (18, 31)], 3, [none, none, none]) (zrh xs) := by
  refine ⟨fun v h => (nomatch h), fun u q h => ?_, rfl, rfl, rfl, rfl, fun k v h => ?_⟩
  · match u, h with
    | 0, h => obtain rfl := Option.some.inj h; exact zany _
    | 1, h => obtain rfl := Option.some.inj h; exact zany _
    | 2, h => obtain rfl := Option.some.inj h; exact zany _
    | 3, h => obtain rfl := Option.some.inj h; exact zany _
    | 4, h => obtain rfl := Option.some.inj h; exact zany _
    | 5, h => obtain rfl := Option.some.inj h; exact zany _
    | 6, h => obtain rfl := Option.some.inj h; exact h18
  · match k, h with
    | 0, h => exact nomatch (Option.some.inj h)
    | 1, h => exact nomatch (Option.some.inj h)
    | 2, h => exact nomatch (Option.some.inj h)
theorem zwalk3 {p : Program} {e : Env} {s : State} {m : MethodId} {below : List Frame} {meth : Method} {c : Code} {l : Launch} {b : Nat} {xs : Nat → Int32} (hfl : l.stackTraces = false) (hL : 3 ≤ 3) (C0 : lw_At p s m meth c b 3 xs) :
    W p l e room_1 s m #[Value.ref b] below meth c s.heap [] 0 0 (lw_Z below #[Value.ref b] s) (entryFrame m ([Value.ref b] : List Value).toArray 8) := by
  obtain ⟨j, hj, hjx⟩ := pk_andE (xs 0) (m := 31) 5 (by decide)
  match j, hjx, hj with
  | 0, hj, _ =>
    exact zwalk hfl hL C0 (zcf_ok hj (zany (xs 1)) (zany (xs 2)) znone znone) rfl zlaw_0
  | 1, hj, _ =>
    rcases zsgn (xs 1) with h | h | h
    · exact zwalk hfl hL C0 (zcf_ok hj h (zany (xs 2)) znone znone) rfl zlaw_1n
    · exact zwalk hfl hL C0 (zcf_ok hj (zpt h) (zany (xs 2)) (zval h) znone) rfl zlaw_1z
    · exact zwalk hfl hL C0 (zcf_ok hj h (zany (xs 2)) znone znone) rfl zlaw_1p
  | 2, hj, _ =>
    rcases zhalf (xs 1) with h | h
    · exact zwalk hfl hL C0 (zcf_ok hj h (zany (xs 2)) znone znone) rfl zlaw_2n
    · exact zwalk hfl hL C0 (zcf_ok hj h (zany (xs 2)) znone znone) rfl zlaw_2p
  | 3, hj, _ =>
    exact zwalk hfl hL C0 (zcf_ok hj (zany (xs 1)) (zany (xs 2)) znone znone) rfl zlaw_3
  | 4, hj, _ =>
    exact zwalk hfl hL C0 (zcf_ok hj (zany (xs 1)) (zany (xs 2)) znone znone) rfl zlaw_4
  | 5, hj, _ =>
    rcases zhalf (xs 1) with h | h
    · exact zwalk hfl hL C0 (zcf_ok hj h (zany (xs 2)) znone znone) rfl zlaw_5n
    · exact zwalk hfl hL C0 (zcf_ok hj h (zany (xs 2)) znone znone) rfl zlaw_5p
  | 6, hj, _ =>
    exact zwalk hfl hL C0 (zcf_ok hj (zany (xs 1)) (zany (xs 2)) znone znone) rfl zlaw_6
  | 7, hj, _ =>
    exact zwalk hfl hL C0 (zcf_ok hj (zany (xs 1)) (zany (xs 2)) znone znone) rfl zlaw_7
  | 8, hj, _ =>
    exact zwalk hfl hL C0 (zcf_ok hj (zany (xs 1)) (zany (xs 2)) znone znone) rfl zlaw_8
  | 9, hj, _ =>
    exact zwalk hfl hL C0 (zcf_ok hj (zany (xs 1)) (zany (xs 2)) znone znone) rfl zlaw_9
  | 10, hj, _ =>
    exact zwalk hfl hL C0 (zcf_ok hj (zany (xs 1)) (zany (xs 2)) znone znone) rfl zlaw_10
  | 11, hj, _ =>
    exact zwalk hfl hL C0 (zcf_ok hj (zany (xs 1)) (zany (xs 2)) znone znone) rfl zlaw_11
  | 12, hj, _ =>
    rcases zhalf (xs 1) with h | h
    · exact zwalk hfl hL C0 (zcf_ok hj h (zany (xs 2)) znone znone) rfl zlaw_12n
    · exact zwalk hfl hL C0 (zcf_ok hj h (zany (xs 2)) znone znone) rfl zlaw_12p
  | 13, hj, _ =>
    exact zwalk hfl hL C0 (zcf_ok hj (zany (xs 1)) (zany (xs 2)) znone znone) rfl zlaw_13
  | 14, hj, _ =>
    exact zwalk hfl hL C0 (zcf_ok hj (zany (xs 1)) (zany (xs 2)) znone znone) rfl zlaw_14
  | 15, hj, _ =>
    exact zwalk hfl hL C0 (zcf_ok hj (zany (xs 1)) (zany (xs 2)) znone znone) rfl zlaw_15
  | 16, hj, _ =>
    rcases zlet (xs 2) with h | h | h
    · exact zwalk hfl hL C0 (zcf_ok hj (zany (xs 1)) h znone znone) rfl zlaw_16n
    · exact zwalk hfl hL C0 (zcf_ok hj (zany (xs 1)) h znone znone) rfl zlaw_16z
    · exact zwalk hfl hL C0 (zcf_ok hj (zany (xs 1)) h znone znone) rfl zlaw_16p
  | 17, hj, _ =>
    rcases zsgn (xs 1) with h | h | h
    · exact zwalk hfl hL C0 (zcf_ok hj h (zany (xs 2)) znone znone) rfl zlaw_17n
    · rcases zwhat (xs 2) with k | k | k | k | k | k
      · exact zwalk hfl hL C0 (zcf_ok hj (zpt h) k (zval h) znone) rfl zlaw_17zn
      · exact zwalk hfl hL C0 (zcf_ok hj (zpt h) (zpt k) (zval h) (zval k)) rfl zlaw_17z0
      · exact zwalk hfl hL C0 (zcf_ok hj (zpt h) (zpt k) (zval h) (zval k)) rfl zlaw_17z1
      · exact zwalk hfl hL C0 (zcf_ok hj (zpt h) (zpt k) (zval h) (zval k)) rfl zlaw_17z2
      · exact zwalk hfl hL C0 (zcf_ok hj (zpt h) (zpt k) (zval h) (zval k)) rfl zlaw_17z3
      · exact zwalk hfl hL C0 (zcf_ok hj (zpt h) k (zval h) znone) rfl zlaw_17zp
    · exact zwalk hfl hL C0 (zcf_ok hj h (zany (xs 2)) znone znone) rfl zlaw_17p
  | j + 18, hj, hlt =>
    exact zwalk hfl hL C0 (zcf_d (by
      rw [hj, nI_toInt (by omega)]
      omega)) rfl zlaw_d
theorem whole_start {p : Program} {e : Env} {s : State} {m : MethodId} {below : List Frame} {meth : Method} {c : Code} (l : Launch) (hflags : l.flags = flags0) {b L : Nat} {xs : Nat → Int32} (hL : L ≤ 3) (C0 : lw_At p s m meth c b L xs) : W p l e room_1 s m #[Value.ref b] below meth c s.heap [] 0 0 (lw_Z below #[Value.ref b] s) (entryFrame m ([Value.ref b] : List Value).toArray 8) := by
  have hfl : l.stackTraces = false := by
    unfold Launch.stackTraces
    rw [hflags]
    decide +kernel
  have h4 : L = 0 ∨ L = 1 ∨ L = 2 ∨ L = 3 := by omega
  rcases h4 with rfl | rfl | rfl | rfl
  · exact zwalk hfl hL C0 zcf_L rfl zlaw_L0
  · exact zwalk hfl hL C0 zcf_L rfl zlaw_L1
  · exact zwalk hfl hL C0 zcf_L rfl zlaw_L2
  · exact zwalk3 hfl hL C0
set_option maxHeartbeats 4000000 in
theorem lw_walk (l : Launch) (hflags : l.flags = flags0) (b : Addr) (xs : List Int32) : MetFree l x (headSpec (Jvm.Cond.code x code maxLocals ret :: tables_1) room_1) (lw_P b xs) (fun _ _ _ _ _ => True) lw_Q := by
  refine MetFree.of_bodyS (code := code) (maxLocals := maxLocals) (ret := ret) (by decide) ?_ ?_
  · intro args s m h hn
    obtain ⟨meth, c, h1, h2, h3, h4, h5, h6, -, -⟩ := Cond.code_spec hn (atoms_spec (ws := Jvm.Cond.code x code maxLocals ret :: tables_1) h _ List.mem_cons_self)
    exact ⟨meth, c, h1, h2, h3, h4, h5, h6⟩
  · intro p e s m args below meth c s₁ B hml0 hP _
    obtain ⟨rfl, hx, hbd, hgv⟩ := hP
    obtain ⟨scr, harrAt, hlist, hof, hsmall⟩ := hx
    obtain ⟨hcb, hkn, -, -⟩ := State.arrayAt?_spec harrAt
    have hown : s.vm.findClass R_law = some m.cls := findClass_of_methodNamed B.named
    have hts0 : ∀ c ∈ (Jvm.Cond.code x code maxLocals ret :: tables_1), c.before #[Value.ref b] s = true := atoms_spec (ws := Jvm.Cond.code x code maxLocals ret :: tables_1) B.pre
    have hts : ∀ w ∈ lw_tbl, w.before #[Value.ref b] s = true := k2_hts_sels lw_privs (fun w hw => hts0 w (List.mem_cons_of_mem _ hw)) lw_privs_ok
    have hml : c.maxLocals = 8 := B.maxLocals_eq (hts0 _ List.mem_cons_self)
    have X₀ : Stand p l e room_1 s m #[Value.ref b] below meth c s₁ [] 0 0 := Stand.of_body B
    have hh0 : s₁.heap = s.heap := by rw [B.state]; rfl
    have hsz : scr.slots.size = xs.length := by rw [← Array.length_toList, hlist, List.length_map]
    have hval : ∀ j : Nat, j < xs.length → scr.slots[j]? = some (.int (xs.getD j 0)) := fun j hj => by
      rw [← Array.getElem?_toList, hlist]
      simp [hj]
    have hbl : b < s.heap.size := (Array.getElem?_eq_some_iff.mp hcb).1
    have hX : va_X b xs.length (fun j => xs.getD j 0) s s.heap := ⟨scr, hcb, hof, hkn, hsz, hval⟩
    have K : W p l e room_1 s m #[Value.ref b] below meth c s₁.heap [] 0 0 (lw_Z below #[Value.ref b] s) (entryFrame m ([Value.ref b] : List Value).toArray 8) := by
      rw [hh0]
      exact whole_start l hflags hbd ⟨B.exec, B.bytes, B.returns, hml, hown, hts, hX, hbl, B.notSynchronized, hgv⟩
    obtain ⟨t, a1, o, b1, b2, b3⟩ := K s₁ rfl X₀
    exact ⟨t, o, a1, b1, b2, b3⟩
theorem lw_pre_spec {args : Array Value} {s : State} (h : (Jvm.Cond.and given_1 narrow_1).before args s = true) (hr : rest_1_c.before args s = true) : ∃ (b : Addr) (xs : List Int32), lw_P b xs args s := by
  have hs := flat_of_before _ h
  have hq := flat_of_before _ hr
  have hc : (Cond.count 1).before args s = true := hs _ (by decide +kernel)
  have harr : (Cond.arrayOf (.arg 0) .int).before args s = true := hs _ (by decide +kernel)
  have hle : (Cond.le (.length (.arg 0)) (.int 3)).before args s = true := hs _ (by decide +kernel)
  have hlen : (Cond.isInt (.length (.arg 0))).before args s = true := hq _ (by decide +kernel)
  have hall : (Cond.all (.arg 0) (.isInt (.elem (.arg 0) (.index 0)))).before args s = true := hq _ (by decide +kernel)
  obtain ⟨b, xs, hb, hx⟩ := State.ints_of_pre rfl harr hlen hall
  have hsm : xs.length < 2 ^ 31 := hx.choose_spec.2.2.2
  have hev : (Term.length (.arg 0)).eval args s none [] s = some (.int xs.length.toInt32) := hx.length_eval hb
  have hv := Cond.le_ints hev (show (Term.int 3).eval args s none [] s = some (.int 3) from rfl)
  have hd : xs.length.toInt32 ≤ 3 := by
    simpa [Cond.before, Cond.holds, hv] using hle
  have hN : xs.length ≤ 3 := (Int32.ofNat_le_ofNat hsm (by decide)).mp (show Int32.ofNat xs.length ≤ Int32.ofNat 3 from hd)
  exact ⟨b, xs, Cond.one_arg hc (show args[0]? = some (.ref b) from hb), hx, hN, h⟩
theorem lw_comes (l : Launch) (hflags : l.flags = flags0) : Comes l x (Jvm.Cond.code x code maxLocals ret :: tables_1) room_1 (fun tb e args s => Calls_1 tb e args s ∧ rest_1 tb e args s ∧ Pre_1 tb e args s)
    (fun _ _ args s o t => lw_Q args s o t) := by
  intro p e ha hc hk s m args below hf hfit hheap happ hpre
  obtain ⟨b, xs, hP⟩ := lw_pre_spec hpre.2.2 hpre.2.1
  obtain ⟨k, o, h1, h2, h3, hQ⟩ := lw_walk l hflags b xs p e ha hc hk s m args below hf ((Spec.applies_iff_loose hf).mp happ).1 hP trivial
  exact ⟨k, o, h1, h2, h3, hQ⟩
theorem lw_frame {s t : State} {o : Outcome} {args : Array Value} (h : Framed s o t [] 600002 7302232) :
    Framed s o t (fieldLocs frame_1_writes args s ++ arrayLocs frame_1_arrays args s ++ staticLocs frame_1_statics s) 600002 7302232 := h
theorem lw_limb (L : Cond) (hL : ∀ (args : Array Value) (s t : State), L.after args s (.returned (some (.int 1))) t = true) :
    ArmFor flags0 classFile x code maxLocals ret World_1 tables_1 room_1 Calls_1 rest_1 Pre_1
      (fun tb e a s o t => postC L tb e a s o t ∧ Framed s o t (fieldLocs frame_1_writes a s ++ arrayLocs frame_1_arrays a s ++ staticLocs frame_1_statics s) 600002 7302232) := by
  intro l hflags _ _ p e ha hc hk s m args below hf hfit hheap happ hpre
  obtain ⟨k, o, h1, h2, h3, rfl, hF⟩ := lw_comes l hflags p e ha hc hk s m args below hf hfit hheap happ hpre
  exact ⟨k, _, h1, h2, h3, hL args s _, lw_frame hF⟩
theorem i_vc : Claimed_1_1 ∧ Claimed_1_2 := ⟨lw_limb limb_1_1 (fun args s t => by simp [limb_1_1, Cond.after, Cond.holds, Cond.value]), lw_limb limb_1_2 (fun args s t => Cond.after_iff.mpr (by
  first | (rw [show limb_1_2 = Cond.eq .result (.int 1) from rfl, Cond.eq_ints (x := 1) (y := 1) rfl rfl]; simp; done) | (simp [limb_1_2, Cond.value, Term.eval]; done)))⟩
