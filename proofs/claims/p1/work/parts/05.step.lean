/-! WHAT THE PROGRAM'S DATA MUST KEEP, and that a step of the lists is a step of the machine -/
def zwd (j : Nat) (w : Jvm.Cond) : Bool := decide (lw_tbl[j]? = some w) && goodWord w
def ztbl : List Jvm.Cond := lw_tbl.filter goodWord
theorem zwd_to {j : Nat} {w : Jvm.Cond} (h : zwd j w = true) : w ∈ ztbl := by
  unfold zwd at h
  rw [Bool.and_eq_true, decide_eq_true_eq] at h
  exact List.mem_filter.mpr ⟨List.mem_of_getElem? h.1, h.2⟩
def zlen (i : Instr) : Nat := match i with
  | .iload _ => 2
  | .aload _ => 2
  | .lload _ => 2
  | .istore _ => 2
  | .astore _ => 2
  | .lstore _ => 2
  | .bipush _ => 2
  | .ldc _ => 2
  | .newarray _ => 2
  | .sipush _ => 3
  | .iinc _ _ => 3
  | .goto _ => 3
  | .if_icmp _ _ => 3
  | .ifCond _ _ => 3
  | .ifnull _ => 3
  | .ifnonnull _ => 3
  | .getfield _ => 3
  | .putfield _ => 3
  | .getstatic _ => 3
  | .new _ => 3
  | .anewarray _ => 3
  | .invokespecial _ => 3
  | .invokevirtual _ => 3
  | .invokestatic _ => 3
  | _ => 1
def zft (code : List zI) (ip : Nat) (e : zI) : Bool := decide (zpc code (ip + 1) = e.2.1 + zlen e.1)
def zln (e : zI) : Bool := decide (e.2.2.1 = zlen e.1)
def ztg (code : List zI) (e : zI) (off : Int) : Bool := match e.2.2.2 with
  | [t] => decide ((e.2.1 : Int) + off = (zpc code t : Int))
  | _ => false
def zati (a : ArrayType) : Nat := match a with
  | .int => 0
  | .char => 1
  | .long => 2
  | .byte => 3
  | _ => 9
def zic (E : Nat) : Nat := match E with
  | 0 => 100
  | 1 => 78
  | _ => 140
def zchn : List String := ["java/lang/RuntimeException", "java/lang/Exception"]
def zchk2 (own nm : String) (cc : ByteArray) (code : List zI) (ip : Nat) (e : zI) : Bool := match e.1 with
  | .goto off => zln e && ztg code e off
  | .if_icmp _ off => zln e && (zft code ip e && ztg code e off)
  | .ifCond _ off => zln e && (zft code ip e && ztg code e off)
  | .ifnull off => zln e && (zft code ip e && ztg code e off)
  | .ifnonnull off => zln e && (zft code ip e && ztg code e off)
  | .tableswitch _ _ _ _ => true
  | .lookupswitch _ _ => true
  | .ireturn => zln e
  | .lreturn => zln e
  | .areturn => zln e
  | .return_ => zln e
  | .getfield idx => zln e && (zft code ip e && match e.2.2.2 with
    | [ci, k, j] => match zcl[ci]? with
      | some q => decide (k < q.2.2) && zwd j (.fieldLink own idx (q.2.1 k).1 (q.2.1 k).2.1 (q.2.1 k).2.2.1)
      | none => false
    | [ci, k, f, _] => match zcl[ci]? with
      | some q => decide (k < q.2.2) && decide (zFw[f]? = some (.fieldLinkNest own idx (q.2.1 k).1 (q.2.1 k).2.1 (q.2.1 k).2.2.1 "MacrocosmModel"))
      | none => false
    | _ => false)
  | .putfield idx => zln e && (zft code ip e && match e.2.2.2 with
    | [ci, k, j] => match zcl[ci]? with
      | some q => decide (k < q.2.2) && (zwd j (.fieldLink own idx (q.2.1 k).1 (q.2.1 k).2.1 (q.2.1 k).2.2.1) && match (q.2.1 k).2.2.2 with
        | true => decide (nm = "<init>") && decide ((q.2.1 k).1 = own)
        | false => true)
      | none => false
    | _ => false)
  | .new idx => zln e && match e.2.2.2 with
    | [ci, j] => zft code ip e && match zcl[ci]? with
      | some q => zwd j (.classLink own idx q.1)
      | none => false
    | [E, j, si, ic, sx] => decide (own = "Macrocosm") && (decide (ic = zic E) && (decide (E < 3) && (match zexn[E]?, zStr[sx]? with
      | some cls, some q => zwd j (.classLink own idx cls) && (decide (q.1 = own) && decide (q.2.1 = si))
      | _, _ => false) && (decide (decode cc (e.2.1 + 3) = .ok (.dup, 1)) && (decide (decode cc (e.2.1 + 4) = .ok (.ldc si, 2)) && (decide (decode cc (e.2.1 + 6) = .ok (.invokespecial ic, 3)) && decide (decode cc (e.2.1 + 9) = .ok (.athrow, 1)))))))
    | _ => false
  | .newarray a => zln e && (zft code ip e && match e.2.2.2 with
    | [ti, j] => decide (ti = zati a) && (decide (ti < 4) && zwd j (.arrayClass (newarray.typeOf a)))
    | _ => false)
  | .anewarray idx => zln e && (zft code ip e && match e.2.2.2 with
    | [_, j] => zwd j (.classLink own idx "MacrocosmModel$Scope")
    | _ => false)
  | .ldc idx => zln e && (zft code ip e && match e.2.2.2 with
    | [j, v] => zwd j (.constant own idx (Int32.ofNat v))
    | _ => false)
  | .getstatic idx => zln e && (zft code ip e && match e.2.2.2 with
    | [j] => zwd j (.fieldLink own idx "java/lang/String" "COMPACT_STRINGS" "Z")
    | _ => false)
  | .invokespecial idx => zln e && (zft code ip e && match e.2.2.2 with
    | [j] => zwd j (.methodLink own idx objectInit)
    | mi :: j :: _ => match zp[mi]? with
      | some M => zwd j (.methodLink own idx M.1)
      | none => false
    | _ => false)
  | .invokevirtual idx => zln e && (zft code ip e && match e.2.2.2 with
    | mi :: j :: j2 :: _ => match zp[mi]? with
      | some M => zwd j (.methodLink own idx M.1) && zwd j2 (.selects M.1.cls M.1 M.1)
      | none => false
    | _ => false)
  | .invokestatic idx => zln e && (zft code ip e && match e.2.2.2 with
    | mi :: j :: _ => match zp[mi]? with
      | some M => zwd j (.methodLink own idx M.1)
      | none => false
    | _ => false)
  | _ => zln e && zft code ip e
def zchk (own nm : String) (cc : ByteArray) (code : List zI) (ip : Nat) (e : zI) : Bool := decide (decode cc e.2.1 = .ok (e.1, e.2.2.1)) && zchk2 own nm cc code ip e
/-- a class: its words are there, its fields' types are types, its fields' names differ -/
def zclchk (q : vw_C) : Bool := (u_ws q.1 q.2.1 q.2.2).all (fun w => decide (w ∈ lw_tbl) && goodWord w) && ((List.range q.2.2).all (fun k => (parseFieldDescriptor (q.2.1 k).2.2.1).isSome) && (((List.range q.2.2).all fun a => (List.range q.2.2).all fun b => decide (a = b) || decide ((q.2.1 a).2.1 ≠ (q.2.1 b).2.1)) && (decide (Jvm.Cond.instantiable q.1 q.2.2 ∈ lw_tbl) && (goodWord (Jvm.Cond.instantiable q.1 q.2.2) && (decide (Jvm.Cond.initialized q.1 ∈ lw_tbl) && (goodWord (Jvm.Cond.initialized q.1) && (zdef q.2.1 q.2.2).all zplain))))))
set_option maxRecDepth 100000 in
theorem zcl_all : zcl.all zclchk = true := by decide +kernel
theorem zcl_to {ci : Nat} {q : vw_C} (h : zcl[ci]? = some q) : (∀ w ∈ u_ws q.1 q.2.1 q.2.2, w ∈ ztbl) ∧ (∀ k, k < q.2.2 → parseFieldDescriptor (q.2.1 k).2.2.1 = some (zfty q.2.1 k)) ∧ (∀ a, a < q.2.2 → ∀ b, b < q.2.2 → a ≠ b → (q.2.1 a).2.1 ≠ (q.2.1 b).2.1) ∧ Jvm.Cond.instantiable q.1 q.2.2 ∈ ztbl ∧ Jvm.Cond.initialized q.1 ∈ ztbl ∧ (zdef q.2.1 q.2.2).all zplain = true := by
  have h1 := List.all_eq_true.mp zcl_all q (List.mem_of_getElem? h)
  unfold zclchk at h1
  simp only [Bool.and_eq_true, decide_eq_true_eq] at h1
  obtain ⟨a1, a2, a3, a4, a5, a6, a7, a8⟩ := h1
  refine ⟨fun w hw => ?_, fun k hk => ?_, fun a ha b hb hne => ?_, List.mem_filter.mpr ⟨a4, a5⟩, List.mem_filter.mpr ⟨a6, a7⟩, a8⟩
  · have := List.all_eq_true.mp a1 w hw
    rw [Bool.and_eq_true, decide_eq_true_eq] at this
    exact List.mem_filter.mpr this
  · have := List.all_eq_true.mp a2 k (List.mem_range.mpr hk)
    obtain ⟨t, ht⟩ := Option.isSome_iff_exists.mp this
    rw [ht]
    unfold zfty
    rw [ht]
    rfl
  · have := List.all_eq_true.mp (List.all_eq_true.mp a3 a (List.mem_range.mpr ha)) b (List.mem_range.mpr hb)
    rw [Bool.or_eq_true, decide_eq_true_eq, decide_eq_true_eq] at this
    exact this.resolve_left hne
def ztys (tc : Nat → ClassId) : List (ClassId × FieldType) := [(tc 0, .int), (tc 1, .char), (tc 2, .long), (tc 3, .byte), (tc 4, .object "MacrocosmModel$Scope")]
/-! the facts that every method is given -/
def zNcs : List (String × String) := [("java/lang/IndexOutOfBoundsException", "java/lang/IllegalStateException"), ("java/lang/IllegalArgumentException", "java/lang/IndexOutOfBoundsException")]
def zZ (A : Nat → Prop) (U : State) (H : Heap) : Prop := (∀ w ∈ zFw, va_Nw w U) ∧ (∀ q ∈ zNcs, va_Nc q.1 q.2 U) ∧ (∀ q ∈ zStr, ∃ a, vk_R q.1 q.2.1 q.2.2 a U) ∧ va_AO "MacrocosmModel$Scope" U ∧ vx_Zq Bundle.tN "UNASSIGNED_STACK" Bundle.steD A U H ∧ vx_Zq Bundle.tN "SUPPRESSED_SENTINEL" Bundle.listD A U H ∧ va_Z "java/lang/String" "COMPACT_STRINGS" "Z" (.int 1) A U H
theorem zZ_kept {A : Nat → Prop} {U : State} {H H1 : Heap} (h : zZ A U H) (hq : ∀ a : Nat, a < H.size → ¬ A a → H1[a]? = H[a]?) : zZ A U H1 := ⟨h.1, h.2.1, h.2.2.1, h.2.2.2.1, h.2.2.2.2.1.kept hq, h.2.2.2.2.2.1.kept hq, h.2.2.2.2.2.2.kept hq⟩
theorem zZ_narrow {A B : Nat → Prop} {U : State} {H : Heap} (h : zZ A U H) (hAB : ∀ q, B q → A q) : zZ B U H := ⟨h.1, h.2.1, h.2.2.1, h.2.2.2.1, h.2.2.2.2.1.narrow hAB, h.2.2.2.2.2.1.narrow hAB, h.2.2.2.2.2.2.narrow hAB⟩
def zkw : Jvm.Cond → Bool
  | .castable _ _ => true
  | .declares _ => true
  | .fieldLinkNest _ _ _ _ _ _ => true
  | _ => false
theorem zkw_all : zFw.all zkw = true := by decide +kernel
theorem zkw_warm {w : Jvm.Cond} {s U : State} (hW : s.WarmedH U.vm) (hk : zkw w = true) (h : va_Nw w s) : va_Nw w U := by
  cases w <;> first | exact va_Nw.warmC hW h | exact va_Nw.warmD hW h | exact va_Nw.warmF hW h | simp [zkw] at hk
theorem zZ_warm {A : Nat → Prop} {s U : State} {H : Heap} (hW : s.WarmedH U.vm) (h : zZ A s H) : zZ A U H :=
  ⟨fun w hw => zkw_warm hW (List.all_eq_true.mp zkw_all w hw) (h.1 w hw), fun q hq => (h.2.1 q hq).moved hW.alike, fun q hq => (h.2.2.1 q hq).elim fun a ha => ⟨a, ha.warm hW⟩, h.2.2.2.1.moved hW.alike, h.2.2.2.2.1.moved hW.alike, h.2.2.2.2.2.1.moved hW.alike, h.2.2.2.2.2.2.moved hW.alike⟩
def zC0 (p : Program) (s : State) (m : MethodId) (args : Array Value) (meth : Method) (c : Code) (cc : ByteArray) (own nm : String) (nL : Nat) (D : va_G) (tc : Nat → ClassId) (A : Nat → Prop) : Prop :=
  p.tables.exec = Jvm.exec ∧ c.code = cc ∧ s.vm.findClass own = some m.cls ∧ va_K D zcl (ztys tc) s ∧ (∀ w ∈ ztbl, w.before args s = true) ∧ zZ A s s.heap ∧ (∀ q, s.heap.size ≤ q → A q) ∧ (nm = "<init>" → meth.name = "<init>") ∧ c.maxLocals = nL
/-- what comes next, for every continuation of the lists' addresses -/
def zK (G : Heap → List Loc → Nat → Nat → JFrame → Prop) (m : MethodId) (D : va_G) (tc : Nat → ClassId) (rh : Nat → Int32) (A : Nat → Prop) (H0 : Heap) (nL : Nat) (code : List zI) (ad sp : Nat → Nat) (n : Nat) (q : zN) (kc ks : Nat) : Prop :=
  ∀ (ad' sp' : Nat → Nat) (H' : Heap) (locs' : List Loc) (lsC' : Array Slot), (∀ k, k < n → ad' k = ad k) → sp' 0 = sp 0 → va_P D zcl (zw tc ad' rh q.2.2.2.1) H' → va_D A (zw tc ad' rh q.2.2.2.1) → va_S A H0 H' locs' → lv_has lsC' nL (zls ad' sp' rh q.2.1) → zwf q.2.1 q.2.2.1 q.2.2.2.1 = true → n ≤ q.2.2.2.1.length → G H' locs' kc ks (F0 m (zpc code q.1) lsC' (zst ad' sp' rh q.2.2.1))
theorem zarrA {D : va_G} {tc : Nat → ClassId} {s : State} {cA : ClassId} {ty : FieldType} {ti : Nat} (hK : va_K D zcl (ztys tc ++ [(cA, ty)]) s) (h : (ztys tc)[ti]? = some (tc ti, ty)) : cA = tc ti := by
  have h1 : (ztys tc ++ [(cA, ty)])[5]? = some (cA, ty) := rfl
  have hlt : ti < (ztys tc).length := (List.getElem?_eq_some_iff.mp h).1
  have h2 : (ztys tc ++ [(cA, ty)])[ti]? = some (tc ti, ty) := by rw [List.getElem?_append_left hlt]; exact h
  have a1 := (hK.2 5 _ h1).2
  have a2 := (hK.2 ti _ h2).2
  cases ty with
  | object C =>
    obtain ⟨_, _, _, _, _, a1⟩ := a1
    obtain ⟨_, _, _, _, _, a2⟩ := a2
    exact Option.some.inj (a1.symm.trans a2)
  | _ => exact Option.some.inj ((show s.vm.findClass _ = some cA from a1).symm.trans (show s.vm.findClass _ = some (tc ti) from a2))
