/-! THE CLAIM OUT OF ONE WALK OF THE LAW'S BODY. Your part is whole_start (and what it stands on); all else here is the same for every law, but numbers. -/
def R_law : String := "MacrocosmLaw"
def lw_P (b : Addr) (xs : List Int32) (args : Array Value) (s : State) : Prop := args = #[.ref b] ∧ s.IntsAt b xs ∧ xs.length ≤ 3 ∧ (Jvm.Cond.and given_1 narrow_1).before args s = true
def lw_Q (_ : Array Value) (s : State) (o : Outcome) (t : State) : Prop := o = .returned (some (.int 1)) ∧ Framed s o t [] 600002 7302232
def lw_Z (below : List Frame) (a : Array Value) (s : State) : State → Prop := fun t => ∃ o, t.status = .running ∧ Ended t below o ∧ lw_Q a s o t
/-- the law's own end, with 1 on the stack, nothing written that was there before, its room as the claim has it -/
theorem lw_ret {p : Program} {l : Launch} {e : Env} {s : State} {m : MethodId} {below : List Frame} {meth : Method} {c : Code} {b : Nat} (hx : p.tables.exec = Jvm.exec) (hb : c.code = code) (hr : meth.sig.returnType = ret) (hlocks : meth.locks = false) {pc : Nat} {H : Heap} {ls : Array Slot} (hdg : decode code pc = .ok (.ireturn, 1)) : W p l e room_1 s m #[Value.ref b] below meth c H [] 600002 7302232 (lw_Z below #[Value.ref b] s) (F0 m pc ls [.int 1]) := by
  intro T hT X
  obtain ⟨fs, hret, hrun, hended, hW, hframe⟩ := X.leave (v := some (.int 1)) (hlocks := hlocks) (fun h => by rw [hr] at h; cases h)
  have hmeth' : T.vm.method? m = some meth := X.method'
  refine ⟨T.setFrames fs, ?_, .returned (some (.int 1)), hrun, hended, rfl, ⟨_, rfl⟩, hW, hframe⟩
  jvm_step X.here [X.here.top, hx, hb, hdg, hmeth', hr, ret, narrow_b1]
  (try refine ⟨rfl, ?_⟩); (try refine ⟨rfl, ?_⟩)
  first | (intro acts; rw [hret _ acts rfl rfl rfl]) | rw [hret _ _ rfl rfl rfl]
  exact Steps.refl _
/-- what holds at the law's entry: the machine, the code, the tables' words (any of lw_tbl by 'hts w (by decide +kernel)'), the script of L ints xs at the cell b, what the Statement gives of the start (any of its parts by flat_of_before) -/
def lw_At (p : Program) (s : State) (m : MethodId) (meth : Method) (c : Code) (b L : Nat) (xs : Nat → Int32) : Prop :=
  p.tables.exec = Jvm.exec ∧ c.code = code ∧ meth.sig.returnType = ret ∧ c.maxLocals = 8 ∧ s.vm.findClass R_law = some m.cls ∧ (∀ w ∈ lw_tbl, w.before #[Value.ref b] s = true) ∧ va_X b L xs s s.heap ∧ b < s.heap.size ∧ meth.locks = false ∧ (Jvm.Cond.and given_1 narrow_1).before #[Value.ref b] s = true
set_option maxRecDepth 100000 in
theorem zFw_all : zFw.all (fun w => decide (w ∈ lw_tbl) && w.onTables) = true := by decide +kernel
set_option maxRecDepth 100000 in
theorem zStr_all : zStr.all (fun q => decide (q.1 = "Macrocosm") && decide (Jvm.Cond.stringRef q.1 q.2.1 q.2.2 ∈ lw_tbl)) = true := by decide +kernel
def ztyl : List FieldType := [.int, .char, .long, .byte, .object "MacrocosmModel$Scope"]
theorem zarr_of {args : Array Value} {s : State} (ty : FieldType) (h : (Jvm.Cond.arrayClass ty).before args s = true) : ∃ c : ClassId, ArrOfT s c ty ∧ s.vm.findClass ("[" ++ ty.toString) = some c := by
  obtain ⟨c, k, comp, h1, h2, h3⟩ := Cond.arrayClass_spec h
  exact ⟨c, fun n z => ⟨fun k9 h9 => (by cases h9), k, h2, comp, h3⟩, h1⟩
theorem zty_known {args : Array Value} {s : State} (hts : ∀ w ∈ lw_tbl, w.before args s = true) : ∃ tc : Nat → ClassId, ∀ (k : Nat) (q : ClassId × FieldType), (ztys tc)[k]? = some q → ArrOfT s q.1 q.2 ∧ va_RA s q.1 q.2 := by
  obtain ⟨c0, a0, b0⟩ := zarr_of (s := s) .int (hts _ (List.mem_of_getElem? (i := 170) (by decide +kernel)))
  obtain ⟨c1, a1, b1⟩ := zarr_of (s := s) .char (hts _ (List.mem_of_getElem? (i := 159) (by decide +kernel)))
  obtain ⟨c2, a2, b2⟩ := zarr_of (s := s) .long (hts _ (List.mem_of_getElem? (i := 499) (by decide +kernel)))
  obtain ⟨c3, a3, b3⟩ := zarr_of (s := s) .byte (hts _ (List.mem_of_getElem? (i := 1115) (by decide +kernel)))
  have hao : (Jvm.Cond.arrayOver (.object "MacrocosmModel$Scope")).before args s = true := hts _ (List.mem_of_getElem? (i := 1512) (by decide +kernel))
  obtain ⟨comp, c4, kA, f1, -, f3, f4, f5⟩ := Cond.arrayOver_spec hao
  refine ⟨fun k => match k with
    | 0 => c0
    | 1 => c1
    | 2 => c2
    | 3 => c3
    | _ => c4, fun k q h => ?_⟩
  match k, h with
  | 0, h => obtain rfl := Option.some.inj h; exact ⟨a0, b0⟩
  | 1, h => obtain rfl := Option.some.inj h; exact ⟨a1, b1⟩
  | 2, h => obtain rfl := Option.some.inj h; exact ⟨a2, b2⟩
  | 3, h => obtain rfl := Option.some.inj h; exact ⟨a3, b3⟩
  | 4, h => obtain rfl := Option.some.inj h; exact ⟨fun n z => ⟨fun k9 h9 => (by cases h9), kA, f3, comp, f4⟩, kA, comp, f3, f4, f1, f5⟩
theorem zcl_known {args : Array Value} {s : State} (hts : ∀ w ∈ ztbl, w.before args s = true) : ∃ D : va_G, ∀ (c : Nat) (q : vw_C), zcl[c]? = some q → u_Kn s q.1 q.2.1 q.2.2 (D.1 c) (D.2 c) := by
  have h : ∀ c : Nat, ∃ z : ClassId × (Nat → Nat), ∀ q : vw_C, zcl[c]? = some q → u_Kn s q.1 q.2.1 q.2.2 z.1 z.2 := by
    intro c
    cases hc : zcl[c]? with
    | none => exact ⟨(0, fun _ => 0), fun q h => nomatch h⟩
    | some q =>
      obtain ⟨a1, -, -, a4, -⟩ := zcl_to hc
      obtain ⟨cC, iS, hk⟩ := u_known hts a1 (hts _ a4)
      exact ⟨(cC, iS), fun q9 h9 => by cases h9; exact hk⟩
  obtain ⟨f, hf⟩ := Classical.axiomOfChoice h
  exact ⟨(fun c => (f c).1, fun c => (f c).2), fun c q hq => hf c q hq⟩
theorem zZ_start {b : Nat} {s : State} (hts : ∀ w ∈ lw_tbl, w.before #[Value.ref b] s = true) (hgv : (Jvm.Cond.and given_1 narrow_1).before #[Value.ref b] s = true) : zZ (fun q => s.heap.size ≤ q) s s.heap := by
  have hs := flat_of_before _ hgv
  have hA : ∀ a : Nat, a < s.heap.size → ¬ (fun q => s.heap.size ≤ q) a := fun a h => Nat.not_le.mpr h
  refine ⟨fun w hw => ?_, fun q hq => ?_, fun q hq => ?_, ?_, ?_, ?_, ?_⟩
  · have h := List.all_eq_true.mp zFw_all w hw
    rw [Bool.and_eq_true, decide_eq_true_eq] at h
    exact va_Nw.of h.2 (hts w h.1)
  · rcases List.mem_cons.mp hq with rfl | hq
    · exact va_Nc.of (hs _ (by decide +kernel))
    · rcases List.mem_cons.mp hq with rfl | hq
      · exact va_Nc.of (hs _ (by decide +kernel))
      · cases hq
  · have h := List.all_eq_true.mp zStr_all q hq
    rw [Bool.and_eq_true, decide_eq_true_eq, decide_eq_true_eq] at h
    have h1 := hts _ h.2
    have hcur : ∃ cur, s.vm.findClass q.1 = some cur := by
      have h9 := h1
      simp only [Cond.before, Cond.holds, Cond.value] at h9
      cases hc : s.vm.findClass q.1 with
      | none => simp [hc] at h9
      | some cur => exact ⟨cur, rfl⟩
    obtain ⟨cur, hcur⟩ := hcur
    obtain ⟨k, cf, i, a, -, -, -, -, -, he⟩ := Cond.stringRef_spec hcur h1
    exact ⟨a, vk_R.of h1 he⟩
  · exact va_AO.of (hts _ (List.mem_of_getElem? (i := 1512) (by decide +kernel)))
  · exact vx_Zqof (hts _ (List.mem_of_getElem? (i := 1167) (by decide +kernel))) (hts _ (List.mem_of_getElem? (i := 114) (by decide +kernel))) (hs _ (by decide +kernel)) hA
  · exact vx_Zqof (hts _ (List.mem_of_getElem? (i := 1169) (by decide +kernel))) (hts _ (List.mem_of_getElem? (i := 114) (by decide +kernel))) (hs _ (by decide +kernel)) hA
  · exact va_Zof (hts _ (List.mem_of_getElem? (i := 623) (by decide +kernel))) (hts _ (List.mem_of_getElem? (i := 119) (by decide +kernel))) (va_eqi (hs _ (by decide +kernel))) hA
def zrh (xs : Nat → Int32) : Nat → Int32 := fun k => match k with
  | 3 => ((xs 1).toUInt32 % 65536).toInt32
  | 4 => ((xs 2).toUInt32 % 65536).toInt32
  | 5 => xs 2 + 1
  | 6 => xs 0 &&& 31
  | k => xs k
set_option maxHeartbeats 4000000 in
theorem zwalk {p : Program} {e : Env} {s : State} {m : MethodId} {below : List Frame} {meth : Method} {c : Code} {l : Launch} {b L : Nat} {xs : Nat → Int32} (hfl : l.stackTraces = false) (hL : L ≤ 3) (C0 : lw_At p s m meth c b L xs) {cf : zF} (hcf : zcfok cf (zrh xs)) (hcL : cf.2.2.1 = L) (h : zlaw cf = true) :
    W p l e room_1 s m #[Value.ref b] below meth c s.heap [] 0 0 (lw_Z below #[Value.ref b] s) (entryFrame m ([Value.ref b] : List Value).toArray 8) := by
  obtain ⟨hx, hb, hr, hml, hown, hts, hX, hbl, hlocks, hgv⟩ := C0
  have htb : ∀ w ∈ ztbl, w.before #[Value.ref b] s = true := fun w hw => hts w (List.mem_filter.mp hw).1
  obtain ⟨tc, htc⟩ := zty_known hts
  obtain ⟨D, hD⟩ := zcl_known htb
  have hK : va_K D zcl (ztys tc) s := ⟨hD, htc⟩
  unfold zlaw at h
  split at h
  · cases h
  · rename_i q hq
    split at h
    · rename_i ee x he hst
      simp only [Bool.and_eq_true, decide_eq_true_eq] at h
      obtain ⟨h1, rfl, h3, h4⟩ := h
      have hl := lv_entry ([.ref b]) (n := 8) (Nat.le_of_ble_eq_true rfl)
      rw [lg_entry_eq]
      generalize (lg_sl ([.ref b]) ++ List.replicate (8 - (lg_sl ([.ref b])).length) Slot.unset).toArray = lsC at hl ⊢
      have C1 : zC0 p s m #[Value.ref b] meth c code "MacrocosmLaw" "law" 8 D tc (fun q => s.heap.size ≤ q) := ⟨hx, hb, hown, hK, htb, zZ_start hts hgv, fun q h => h, fun h => absurd h (by decide), hml⟩
      have hX2 : va_X b cf.2.2.1 (zrh xs) s s.heap := by
        rw [hcL]
        obtain ⟨scr, x1, x2, x3, x4, x5⟩ := hX
        refine ⟨scr, x1, x2, x3, x4, fun j hj => ?_⟩
        rw [x5 j hj]
        have : j < 3 := Nat.lt_of_lt_of_le hj hL
        match j, this with
        | 0, _ => rfl
        | 1, _ => rfl
        | 2, _ => rfl
      have g := zloop_ok (Q := lw_Z below #[Value.ref b] s) (l := l) (en := e) (R := room_1) (below := below) (sp0 := b) (isL := true) (d := 20) (hh := []) C1 hcf (fun _ => ⟨hX2, hbl, Nat.not_le.mpr hbl⟩) (zOK_all hfl 20) (fun h => absurd rfl h) zlc_h zlc_i (Nat.le_of_ble_eq_true rfl) (Nat.le_of_ble_eq_true rfl) zlc_all 3000 0 [(0, .double 0)] [] [] 0 0 q zz (fun _ => b) s.heap [] lsC hq (Nat.le_trans h3 (Nat.le_of_ble_eq_true rfl)) (Nat.le_trans h4 (Nat.le_of_ble_eq_true rfl)) (fun k q h => nomatch h) ⟨fun i j p q h => (nomatch h), fun k q h => nomatch h⟩ va_S.rf hl rfl rfl ?_
      · have h0 : zpc zLC 0 = 0 := by decide +kernel
        rw [h0] at g
        exact g
      · intro ad' sp' H' locs' lsC' hext hsp hP' hD' hS' hl' hw' hn'
        obtain ⟨i, pc, len, ex⟩ := ee
        replace h1 : i = .ireturn := h1
        subst h1
        have hck := zcd_to (own := "MacrocosmLaw") (nm := "law") (cc := code) (code := zLC) zlc_all he (fun h => by cases h)
        unfold zchk at hck
        rw [Bool.and_eq_true, decide_eq_true_eq] at hck
        obtain ⟨hdec, hck⟩ := hck
        obtain rfl : len = 1 := of_decide_eq_true hck
        have hpc : zpc zLC q.1 = pc := by
          unfold zpc
          rw [show zLC[q.1]? = _ from he]
        rw [hpc, hst]
        refine va_forget (fun z hz => hS'.2.2 z hz) ?_
        refine W.widen (k := 600002) (n := 7302232) (Nat.le_trans h3 (Nat.le_of_ble_eq_true rfl)) (Nat.le_trans h4 (Nat.le_of_ble_eq_true rfl)) ?_
        exact lw_ret hx hb hr hlocks hdec
    · cases h
