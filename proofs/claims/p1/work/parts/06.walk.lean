/-! A STEP OF THE LISTS IS A STEP OF THE MACHINE -/
theorem zobj_w : Jvm.Cond.instanceMethod objectInit ∈ ztbl ∧ Jvm.Cond.code objectInit ⟨#[0xb1]⟩ 1 none ∈ ztbl := ⟨zwd_to (j := 144) (by decide +kernel), zwd_to (j := 145) (by decide +kernel)⟩
theorem zdf {code : List zI} {ip : Nat} {i : Instr} {pc len : Nat} {ex : List Nat} {n : Nat} (h : (zln (i, pc, len, ex) && zft code ip (i, pc, len, ex)) = true) (hn : zlen i = n) : len = n ∧ zpc code (ip + 1) = pc + n := by
  rw [Bool.and_eq_true] at h
  subst hn
  exact ⟨of_decide_eq_true h.1, of_decide_eq_true h.2⟩
theorem zdx {code : List zI} {ip : Nat} {i : Instr} {pc len : Nat} {ex : List Nat} {n : Nat} {b : Bool} (h : (zln (i, pc, len, ex) && (zft code ip (i, pc, len, ex) && b)) = true) (hn : zlen i = n) : len = n ∧ zpc code (ip + 1) = pc + n ∧ b = true := by
  rw [Bool.and_eq_true, Bool.and_eq_true] at h
  subst hn
  exact ⟨of_decide_eq_true h.1, of_decide_eq_true h.2.1, h.2.2⟩
theorem ztg_to {code : List zI} {i : Instr} {pc len : Nat} {ex : List Nat} {off : Int} (h : ztg code (i, pc, len, ex) off = true) {t : Nat} (ht : ex = [t]) : (pc : Int) + off = (zpc code t : Int) := by
  subst ht
  exact of_decide_eq_true h
theorem zst_cons {ad sp : Nat → Nat} {rh : Nat → Int32} {v : Value} {st : List Value} : zst ad sp rh (v :: st) = zv ad sp rh v :: zst ad sp rh st := rfl
theorem zsum_eq {ad sp : Nat → Nat} {rh : Nat → Int32} (st : List Value) : ((zst ad sp rh st).map fun v => v.category).sum = zsum st := by
  induction st with
  | nil => rfl
  | cons v r ih =>
    rw [zst_cons, List.map_cons, List.sum_cons, ih, zv_cat]
    rfl
theorem zjump_to {b : Bool} {t : Option Nat} {off : Int} {code : List zI} {pc : Nat} {ls : zL} {st : List Value} {w : List zE} {q : zN} (h : zjump b t off code pc ls st w = some q) : ∃ t', t = some t' ∧ b = true ∧ (pc : Int) + off = (zpc code t' : Int) ∧ q = (t', ls, st, w, 0, 0) := by
  unfold zjump at h
  split at h
  · cases h
  · rename_i t'
    split at h
    · rename_i hb
      rw [Bool.and_eq_true, decide_eq_true_eq] at hb
      exact ⟨t', rfl, hb.1, hb.2, (Option.some.inj h).symm⟩
    · cases h
theorem zclamp {n : Int32} (h0 : 0 ≤ n.toInt) (h1 : n.toInt ≤ 60000) : n.toNatClampNeg ≤ 60000 := by
  have : n.toNatClampNeg = n.toInt.toNat := rfl
  omega
theorem znneg {n : Int32} (h0 : 0 ≤ n.toInt) : ¬ n < 0 := by
  rw [Int32.lt_iff_toInt_lt]
  have : (0 : Int32).toInt = 0 := by decide
  omega
theorem zdef_cv {ad : Nat → Nat} {rh : Nat → Int32} {l : List Value} (h : l.all zplain = true) : l.map (zv ad zz rh) = l := by
  induction l with
  | nil => rfl
  | cons v r ih =>
    rw [List.all_cons, Bool.and_eq_true] at h
    rw [List.map_cons, ih h.2]
    cases v <;> first | rfl | simp [zplain] at h
theorem zdef_wf {n : Nat} {l : List Value} (h : l.all zplain = true) : l.all (zwv n) = true := by
  refine List.all_eq_true.mpr fun v hv => ?_
  have h1 := List.all_eq_true.mp h v hv
  cases v <;> first | rfl | simp [zplain] at h1
theorem zww_app {w : List zE} {x : zE} (h : w.all (zwe w.length) = true) (hx : zwe (w.length + 1) x = true) : (w ++ [x]).all (zwe (w ++ [x]).length) = true := by
  rw [List.length_append, List.length_singleton, List.all_append, zww_le (Nat.le_succ _) h, List.all_cons, hx]
  rfl
theorem zww_set {w : List zE} {x : zE} {k : Nat} (h : w.all (zwe w.length) = true) (hx : zwe w.length x = true) : (w.set k x).all (zwe (w.set k x).length) = true := by
  rw [List.length_set]
  refine List.all_eq_true.mpr fun v hv => ?_
  rcases List.mem_or_eq_of_mem_set hv with hv | rfl
  · exact List.all_eq_true.mp h v hv
  · exact hx
theorem zast_to {ti ip : Nat} {ls : zL} {st : List Value} {w : List zE} {q : zN} (h : zast ti ip ls st w = some q) : ∃ (v : Value) (i : Int32) (a : Nat) (r : List Value) (n : Nat) (l : List (Nat × Value)), st = v :: .int i :: .ref a :: r ∧ w[a]? = some (.inl (ti, n, l)) ∧ (if ti = 2 then zisL v else zisI v) = true ∧ zin i n = true ∧ q = (ip + 1, ls, r, w.set a (.inl (ti, n, (i.toNatClampNeg, v) :: l)), 0, 0) := by
  unfold zast at h
  split at h
  · rename_i v i a r
    split at h
    · rename_i o ho
      obtain ⟨n, l⟩ := o
      split at h
      · rename_i hb
        rw [Bool.and_eq_true] at hb
        exact ⟨v, i, a, r, n, l, rfl, zarr_to ho, hb.1, hb.2, (Option.some.inj h).symm⟩
      · cases h
    · cases h
  · cases h
theorem zint_of {ad sp : Nat → Nat} {rh : Nat → Int32} {v : Value} {x : Int32} (h : zv ad sp rh v = .int x) : zint rh v = x := by
  cases v with
  | int y => exact Value.int.inj h
  | float u => exact Value.int.inj h
  | _ => cases h
section ZW
variable {p : Program} {l : Launch} {en : Env} {R : Room} {s : State} {m : MethodId} {args : Array Value} {below : List Frame} {meth : Method} {c : Code} {H : Heap} {locs : List Loc} {cells slots : Nat} {Q : State → Prop} {cc : ByteArray} {pc : Nat} {ls : Array Slot} {rest : List Value}
theorem zicmp (hx : p.tables.exec = Jvm.exec) (hb : c.code = cc) {co : ClassFile.Cond} {x y : Int32} {off : Int} {tgt : Nat} (hdg : decode cc pc = .ok (.if_icmp co off, 3)) (ht : (pc : Int) + off = (tgt : Int))
    (kt : zrel co x y → W p l en R s m args below meth c H locs cells slots Q (F0 m tgt ls rest)) (kf : ¬ zrel co x y → W p l en R s m args below meth c H locs cells slots Q (F0 m (pc + 3) ls rest)) : W p l en R s m args below meth c H locs cells slots Q (F0 m pc ls (.int y :: .int x :: rest)) := by
  cases co with
  | eq => exact lv_icmp_eq hx hb hdg ht kt kf
  | ne => exact lv_icmp_ne hx hb hdg ht kt (fun h => kf (fun h9 => h9 h))
  | lt => exact lv_icmp_lt hx hb hdg ht kt kf
  | ge => exact lv_icmp_ge hx hb hdg ht kt kf
  | gt => exact lv_icmp_gt hx hb hdg ht kt kf
  | le => exact lv_icmp_le hx hb hdg ht kt kf
theorem zifc (hx : p.tables.exec = Jvm.exec) (hb : c.code = cc) {co : ClassFile.Cond} {x : Int32} {off : Int} {tgt : Nat} (hdg : decode cc pc = .ok (.ifCond co off, 3)) (ht : (pc : Int) + off = (tgt : Int))
    (kt : zrel co x 0 → W p l en R s m args below meth c H locs cells slots Q (F0 m tgt ls rest)) (kf : ¬ zrel co x 0 → W p l en R s m args below meth c H locs cells slots Q (F0 m (pc + 3) ls rest)) : W p l en R s m args below meth c H locs cells slots Q (F0 m pc ls (.int x :: rest)) := by
  cases co with
  | eq => exact lv_if_eq hx hb hdg ht kt kf
  | ne => exact lv_if_ne hx hb hdg ht kt (fun h => kf (fun h9 => h9 h))
  | lt => exact lv_if_lt hx hb hdg ht kt kf
  | ge => exact lv_if_ge hx hb hdg ht kt kf
  | gt => exact lv_if_gt hx hb hdg ht kt kf
  | le => exact lv_if_le hx hb hdg ht kt kf
end ZW
set_option maxHeartbeats 4000000 in
theorem zstep_ok {p : Program} {l : Launch} {en : Env} {R : Room} {s : State} {m : MethodId} {args : Array Value} {below : List Frame} {meth : Method} {c : Code} {H : Heap} {locs : List Loc} {cells slots : Nat} {Q : State → Prop}
    {cc : ByteArray} {own nm : String} {nL : Nat} {D : va_G} {tc : Nat → ClassId} {A : Nat → Prop} {rh : Nat → Int32} {ad sp : Nat → Nat} {cf : zF} {isL : Bool} {code : List zI} {ip : Nat} {ei : zI} {ls : zL} {st : List Value} {w : List zE} {q : zN} {lsC : Array Slot}
    (C : zC0 p s m args meth c cc own nm nL D tc A) (hcf : zcfok cf rh) (hscr : isL = true → va_X (sp 0) cf.2.2.1 rh s s.heap ∧ sp 0 < s.heap.size ∧ ¬ A (sp 0)) (hR : 1 ≤ R.frames ∧ 20 ≤ R.locals)
    (he : code[ip]? = some ei) (hck : zchk own nm cc code ip ei = true) (hkind : zkind ei.1 ei.2.2.2 = 2) (hst : zstep isL cf nL code ei ip ls st w = some q)
    (hP : va_P D zcl (zw tc ad rh w) H) (hD : va_D A (zw tc ad rh w)) (hS : va_S A s.heap H locs) (hl : lv_has lsC nL (zls ad sp rh ls)) (hw : zwf ls st w = true)
    (hrc : cells + q.2.2.2.2.1 ≤ R.cells) (hrs : slots + q.2.2.2.2.2 ≤ R.slots)
    (hk : zK (fun H locs k n g => W p l en R s m args below meth c H locs k n Q g) m D tc rh A s.heap nL code ad sp w.length q (cells + q.2.2.2.2.1) (slots + q.2.2.2.2.2)) :
    W p l en R s m args below meth c H locs cells slots Q (F0 m (zpc code ip) lsC (zst ad sp rh st)) := by
  obtain ⟨i, pc, len, ex⟩ := ei
  obtain ⟨hx, hb, hown, hK, hts, hZ, hA, hnm, hmL⟩ := C
  obtain ⟨hw1, hw2, hw3⟩ := zwf_to hw
  have hpc : zpc code ip = pc := by simp [zpc, he]
  rw [hpc]
  unfold zchk at hck
  rw [Bool.and_eq_true, decide_eq_true_eq] at hck
  obtain ⟨hdec, hck⟩ := hck
  replace hdec : decode cc pc = .ok (i, len) := hdec
  have hgo : ∀ (ip' : Nat) (ls' : zL) (st' : List Value) (lsC' : Array Slot), q = (ip', ls', st', w, 0, 0) → lv_has lsC' nL (zls ad sp rh ls') → zwl w.length ls' = true → st'.all (zwv w.length) = true → W p l en R s m args below meth c H locs cells slots Q (F0 m (zpc code ip') lsC' (zst ad sp rh st')) := by
    intro ip' ls' st' lsC' hq h1 h2 h3
    subst hq
    exact hk ad sp H locs lsC' (fun _ _ => rfl) rfl hP hD hS h1 (zwf_of hw1 h2 h3) (Nat.le_refl _)
  have hgp : ∀ (v : Value), q = (ip + 1, ls, v :: st, w, 0, 0) → zwv w.length v = true → W p l en R s m args below meth c H locs cells slots Q (F0 m (zpc code (ip + 1)) lsC (zv ad sp rh v :: zst ad sp rh st)) := fun v hq hv => hgo _ _ (v :: st) lsC hq hl hw2 (by rw [List.all_cons, hv, hw3]; rfl)
  cases i with
  | iload_n k =>
    obtain ⟨rfl, hft⟩ := zdf (n := 1) hck rfl
    obtain ⟨v, hv, hf, hq⟩ := zload_to (show zload zisI k.val ip ls st w = some q from hst)
    obtain ⟨x9, hx9⟩ := zisI_to (ad := ad) (sp := sp) (rh := rh) hf
    have g := hgp v hq (zwl_get hw2 hv)
    rw [hft, hx9] at g
    exact lv_iload_n hx hb hdec rfl (by rw [zl_at hl hv, hx9]) g
  | iload k =>
    obtain ⟨rfl, hft⟩ := zdf (n := 2) hck rfl
    obtain ⟨v, hv, hf, hq⟩ := zload_to (show zload zisI k ip ls st w = some q from hst)
    obtain ⟨x9, hx9⟩ := zisI_to (ad := ad) (sp := sp) (rh := rh) hf
    have g := hgp v hq (zwl_get hw2 hv)
    rw [hft, hx9] at g
    exact lv_iload hx hb hdec (by rw [zl_at hl hv, hx9]) g
  | aload_n k =>
    obtain ⟨rfl, hft⟩ := zdf (n := 1) hck rfl
    obtain ⟨v, hv, hf, hq⟩ := zload_to (show zload zisR k.val ip ls st w = some q from hst)
    have g := hgp v hq (zwl_get hw2 hv)
    rcases zisR_to (ad := ad) (sp := sp) (rh := rh) hf with hx9 | ⟨x9, hx9⟩
    · rw [hft, hx9] at g
      exact lv_aload_nN hx hb hdec rfl (by rw [zl_at hl hv, hx9]) g
    · rw [hft, hx9] at g
      exact lv_aload_n hx hb hdec rfl (by rw [zl_at hl hv, hx9]) g
  | aload k =>
    obtain ⟨rfl, hft⟩ := zdf (n := 2) hck rfl
    obtain ⟨v, hv, hf, hq⟩ := zload_to (show zload zisR k ip ls st w = some q from hst)
    have g := hgp v hq (zwl_get hw2 hv)
    rcases zisR_to (ad := ad) (sp := sp) (rh := rh) hf with hx9 | ⟨x9, hx9⟩
    · rw [hft, hx9] at g
      exact lv_aloadN hx hb hdec (by rw [zl_at hl hv, hx9]) g
    · rw [hft, hx9] at g
      exact lv_aload hx hb hdec (by rw [zl_at hl hv, hx9]) g
  | lload_n k =>
    obtain ⟨rfl, hft⟩ := zdf (n := 1) hck rfl
    obtain ⟨v, hv, hf, hq⟩ := zload_to (show zload zisL k.val ip ls st w = some q from hst)
    have g := hgp v hq (zwl_get hw2 hv)
    obtain ⟨x9, rfl⟩ := zisL_to hf
    rw [hft] at g
    exact lv_lload_n hx hb hdec rfl (zl_at hl hv) g
  | lload k =>
    obtain ⟨rfl, hft⟩ := zdf (n := 2) hck rfl
    obtain ⟨v, hv, hf, hq⟩ := zload_to (show zload zisL k ip ls st w = some q from hst)
    have g := hgp v hq (zwl_get hw2 hv)
    obtain ⟨x9, rfl⟩ := zisL_to hf
    rw [hft] at g
    exact lv_lload hx hb hdec (zl_at hl hv) g
  | istore_n k =>
    obtain ⟨rfl, hft⟩ := zdf (n := 1) hck rfl
    obtain ⟨v, r, rfl, hf, hn, hq⟩ := zstore_to (show zstore zisI nL k.val ip ls st w = some q from hst)
    obtain ⟨x9, hx9⟩ := zisI_to (ad := ad) (sp := sp) (rh := rh) hf
    rw [List.all_cons, Bool.and_eq_true] at hw3
    rw [zst_cons, hx9]
    refine lv_istore_n (lv' := zls ad sp rh (zset k.val v ls)) hx hb hdec rfl hl hn (by rw [← hx9]; exact zls_set) (fun ls' hl' => ?_)
    have g := hgo _ _ r ls' hq hl' (zwl_set hw2 hw3.1) hw3.2
    rw [hft] at g
    exact g
  | istore k =>
    obtain ⟨rfl, hft⟩ := zdf (n := 2) hck rfl
    obtain ⟨v, r, rfl, hf, hn, hq⟩ := zstore_to (show zstore zisI nL k ip ls st w = some q from hst)
    obtain ⟨x9, hx9⟩ := zisI_to (ad := ad) (sp := sp) (rh := rh) hf
    rw [List.all_cons, Bool.and_eq_true] at hw3
    rw [zst_cons, hx9]
    refine lv_istore (lv' := zls ad sp rh (zset k v ls)) hx hb hdec hl hn (by rw [← hx9]; exact zls_set) (fun ls' hl' => ?_)
    have g := hgo _ _ r ls' hq hl' (zwl_set hw2 hw3.1) hw3.2
    rw [hft] at g
    exact g
  | astore_n k =>
    obtain ⟨rfl, hft⟩ := zdf (n := 1) hck rfl
    obtain ⟨v, r, rfl, hf, hn, hq⟩ := zstore_to (show zstore zisR nL k.val ip ls st w = some q from hst)
    rw [List.all_cons, Bool.and_eq_true] at hw3
    rw [zst_cons]
    rcases zisR_to (ad := ad) (sp := sp) (rh := rh) hf with hx9 | ⟨x9, hx9⟩
    · rw [hx9]
      refine lv_astore_nN (lv' := zls ad sp rh (zset k.val v ls)) hx hb hdec rfl hl hn (by rw [← hx9]; exact zls_set) (fun ls' hl' => ?_)
      have g := hgo _ _ r ls' hq hl' (zwl_set hw2 hw3.1) hw3.2
      rw [hft] at g
      exact g
    · rw [hx9]
      refine lv_astore_n (lv' := zls ad sp rh (zset k.val v ls)) hx hb hdec rfl hl hn (by rw [← hx9]; exact zls_set) (fun ls' hl' => ?_)
      have g := hgo _ _ r ls' hq hl' (zwl_set hw2 hw3.1) hw3.2
      rw [hft] at g
      exact g
  | astore k =>
    obtain ⟨rfl, hft⟩ := zdf (n := 2) hck rfl
    obtain ⟨v, r, rfl, hf, hn, hq⟩ := zstore_to (show zstore zisR nL k ip ls st w = some q from hst)
    rw [List.all_cons, Bool.and_eq_true] at hw3
    rw [zst_cons]
    rcases zisR_to (ad := ad) (sp := sp) (rh := rh) hf with hx9 | ⟨x9, hx9⟩
    · rw [hx9]
      refine lv_astoreN (lv' := zls ad sp rh (zset k v ls)) hx hb hdec hl hn (by rw [← hx9]; exact zls_set) (fun ls' hl' => ?_)
      have g := hgo _ _ r ls' hq hl' (zwl_set hw2 hw3.1) hw3.2
      rw [hft] at g
      exact g
    · rw [hx9]
      refine lv_astore (lv' := zls ad sp rh (zset k v ls)) hx hb hdec hl hn (by rw [← hx9]; exact zls_set) (fun ls' hl' => ?_)
      have g := hgo _ _ r ls' hq hl' (zwl_set hw2 hw3.1) hw3.2
      rw [hft] at g
      exact g
  | lstore_n k =>
    obtain ⟨rfl, hft⟩ := zdf (n := 1) hck rfl
    obtain ⟨v, r, rfl, hf, hn, hq⟩ := zstore2_to (show zstore2 nL k.val ip ls st w = some q from hst)
    obtain ⟨x9, rfl⟩ := zisL_to hf
    rw [List.all_cons, Bool.and_eq_true] at hw3
    refine lv_lstore_n (lv' := zls ad sp rh (zset2 k.val (.long x9) ls)) hx hb hdec rfl hl hn (zls_set2 (ad := ad) (sp := sp) (rh := rh) (v := .long x9)) (fun ls' hl' => ?_)
    have g := hgo _ _ r ls' hq hl' (zwl_set2 hw2 hw3.1) hw3.2
    rw [hft] at g
    exact g
  | lstore k =>
    obtain ⟨rfl, hft⟩ := zdf (n := 2) hck rfl
    obtain ⟨v, r, rfl, hf, hn, hq⟩ := zstore2_to (show zstore2 nL k ip ls st w = some q from hst)
    obtain ⟨x9, rfl⟩ := zisL_to hf
    rw [List.all_cons, Bool.and_eq_true] at hw3
    refine lv_lstore (lv' := zls ad sp rh (zset2 k (.long x9) ls)) hx hb hdec hl hn (zls_set2 (ad := ad) (sp := sp) (rh := rh) (v := .long x9)) (fun ls' hl' => ?_)
    have g := hgo _ _ r ls' hq hl' (zwl_set2 hw2 hw3.1) hw3.2
    rw [hft] at g
    exact g
  | iconst n =>
    obtain ⟨rfl, hft⟩ := zdf (n := 1) hck rfl
    have g := hgp _ (Option.some.inj (show some (ip + 1, ls, Value.int (Int32.ofInt n) :: st, w, 0, 0) = some q from hst)).symm rfl
    rw [hft] at g
    exact lv_iconst hx hb hdec rfl g
  | lconst n =>
    obtain ⟨rfl, hft⟩ := zdf (n := 1) hck rfl
    have g := hgp _ (Option.some.inj (show some (ip + 1, ls, Value.long (Int64.ofNat n.val) :: st, w, 0, 0) = some q from hst)).symm rfl
    rw [hft] at g
    exact lv_lconst hx hb hdec rfl g
  | bipush n =>
    obtain ⟨rfl, hft⟩ := zdf (n := 2) hck rfl
    have g := hgp _ (Option.some.inj (show some (ip + 1, ls, Value.int (Int8.ofInt n).toInt32 :: st, w, 0, 0) = some q from hst)).symm rfl
    rw [hft] at g
    exact lv_bipush hx hb hdec rfl g
  | sipush n =>
    obtain ⟨rfl, hft⟩ := zdf (n := 3) hck rfl
    have g := hgp _ (Option.some.inj (show some (ip + 1, ls, Value.int (Int16.ofInt n).toInt32 :: st, w, 0, 0) = some q from hst)).symm rfl
    rw [hft] at g
    exact lv_sipush hx hb hdec rfl g
  | aconst_null =>
    obtain ⟨rfl, hft⟩ := zdf (n := 1) hck rfl
    have g := hgp _ (Option.some.inj (show some (ip + 1, ls, Value.null :: st, w, 0, 0) = some q from hst)).symm rfl
    rw [hft] at g
    exact lv_null hx hb hdec g
  | ldc idx =>
    obtain ⟨rfl, hft, hwd⟩ := zdx (n := 2) hck rfl
    replace hst : z_ldc ex ip ls st w = some q := hst
    unfold z_ldc at hst
    split at hst
    · rename_i j v
      have g := hgp _ (Option.some.inj (show some (ip + 1, ls, Value.int (Int32.ofNat v) :: st, w, 0, 0) = some q from hst)).symm rfl
      rw [hft] at g
      exact lv_ldc hx hb hown (hts _ (zwd_to hwd)) hdec g
    · cases hst
  | getstatic idx =>
    obtain ⟨rfl, hft, hwd⟩ := zdx (n := 3) hck rfl
    have g := hgp _ (Option.some.inj (show some (ip + 1, ls, Value.int 1 :: st, w, 0, 0) = some q from hst)).symm rfl
    rw [hft] at g
    dsimp only at hwd
    split at hwd
    · exact va_gets hx hb hZ.2.2.2.2.2.2 hS hown (hts _ (zwd_to hwd)) (fun _ h9 => h9) hdec g
    · cases hwd
  | dup =>
    obtain ⟨rfl, hft⟩ := zdf (n := 1) hck rfl
    replace hst : z_dup ip ls st w = some q := hst
    unfold z_dup at hst
    split at hst
    · rename_i v r
      split at hst
      · rename_i hb9
        rw [List.all_cons, Bool.and_eq_true] at hw3
        have g := hgo _ _ (v :: v :: r) lsC (Option.some.inj hst).symm hl hw2 (by rw [List.all_cons, List.all_cons, hw3.1, hw3.2]; rfl)
        rw [hft] at g
        exact lv_dup hx hb hdec ((zv_cat v).trans (Nat.eq_of_beq_eq_true hb9)) g
      · cases hst
    · cases hst
  | pop =>
    obtain ⟨rfl, hft⟩ := zdf (n := 1) hck rfl
    replace hst : z_pop ip ls st w = some q := hst
    unfold z_pop at hst
    split at hst
    · rename_i v r
      split at hst
      · rename_i hb9
        rw [List.all_cons, Bool.and_eq_true] at hw3
        have g := hgo _ _ r lsC (Option.some.inj hst).symm hl hw2 hw3.2
        rw [hft] at g
        exact lv_pop hx hb hdec ((zv_cat v).trans (Nat.eq_of_beq_eq_true hb9)) g
      · cases hst
    · cases hst
  | iadd =>
    obtain ⟨rfl, hft⟩ := zdf (n := 1) hck rfl
    replace hst : z_iadd ip ls st w = some q := hst
    unfold z_iadd at hst
    split at hst
    · rename_i y x r
      rw [List.all_cons, List.all_cons, Bool.and_eq_true, Bool.and_eq_true] at hw3
      have g := hgo _ _ (.int (x + y) :: r) lsC (Option.some.inj hst).symm hl hw2 (by rw [List.all_cons, hw3.2.2]; rfl)
      rw [hft] at g
      exact lv_iadd hx hb hdec g
    · rename_i y u r
      split at hst
      · rename_i hb9
        rw [Bool.and_eq_true, decide_eq_true_eq, decide_eq_true_eq] at hb9
        obtain ⟨rfl, rfl⟩ := hb9
        rw [List.all_cons, List.all_cons, Bool.and_eq_true, Bool.and_eq_true] at hw3
        have g := hgo _ _ (.float 5 :: r) lsC (Option.some.inj hst).symm hl hw2 (by rw [List.all_cons, hw3.2.2]; rfl)
        rw [hft, zst_cons, show zv ad sp rh (.float 5) = .int (rh 2 + 1) from by rw [← hcf.2.2.2.2.1]; rfl] at g
        exact lv_iadd hx hb hdec g
      · cases hst
    · cases hst
  | isub =>
    obtain ⟨rfl, hft⟩ := zdf (n := 1) hck rfl
    replace hst : zbin (· - ·) ip ls st w = some q := hst
    unfold zbin at hst
    split at hst
    · rename_i y x r
      rw [List.all_cons, List.all_cons, Bool.and_eq_true, Bool.and_eq_true] at hw3
      have g := hgo _ _ (.int (x - y) :: r) lsC (Option.some.inj hst).symm hl hw2 (by rw [List.all_cons, hw3.2.2]; rfl)
      rw [hft] at g
      exact lv_isub hx hb hdec g
    · cases hst
  | imul =>
    obtain ⟨rfl, hft⟩ := zdf (n := 1) hck rfl
    replace hst : zbin (· * ·) ip ls st w = some q := hst
    unfold zbin at hst
    split at hst
    · rename_i y x r
      rw [List.all_cons, List.all_cons, Bool.and_eq_true, Bool.and_eq_true] at hw3
      have g := hgo _ _ (.int (x * y) :: r) lsC (Option.some.inj hst).symm hl hw2 (by rw [List.all_cons, hw3.2.2]; rfl)
      rw [hft] at g
      exact lv_imul hx hb hdec g
    · cases hst
  | iand =>
    obtain ⟨rfl, hft⟩ := zdf (n := 1) hck rfl
    replace hst : z_iand cf ip ls st w = some q := hst
    unfold z_iand at hst
    split at hst
    · rename_i y x r
      rw [List.all_cons, List.all_cons, Bool.and_eq_true, Bool.and_eq_true] at hw3
      have g := hgo _ _ (.int (x &&& y) :: r) lsC (Option.some.inj hst).symm hl hw2 (by rw [List.all_cons, hw3.2.2]; rfl)
      rw [hft] at g
      exact lv_iand hx hb hdec g
    · rename_i y u r
      split at hst
      · rename_i hb9
        rw [Bool.and_eq_true, decide_eq_true_eq, decide_eq_true_eq] at hb9
        obtain ⟨rfl, rfl⟩ := hb9
        rw [List.all_cons, List.all_cons, Bool.and_eq_true, Bool.and_eq_true] at hw3
        split at hst
        · rename_i v9 hv9
          have g := hgo _ _ (.int v9 :: r) lsC (Option.some.inj hst).symm hl hw2 (by rw [List.all_cons, hw3.2.2]; rfl)
          rw [hft, zst_cons, show zv ad sp rh (.int v9) = .int (rh 0 &&& 31) from by rw [hcf.1 v9 hv9]; rfl] at g
          exact lv_iand hx hb hdec g
        · have g := hgo _ _ (.float 6 :: r) lsC (Option.some.inj hst).symm hl hw2 (by rw [List.all_cons, hw3.2.2]; rfl)
          rw [hft, zst_cons, show zv ad sp rh (.float 6) = .int (rh 0 &&& 31) from by rw [← hcf.2.2.2.2.2.1]; rfl] at g
          exact lv_iand hx hb hdec g
      · cases hst
    · cases hst
  | iinc i9 n9 =>
    obtain ⟨rfl, hft⟩ := zdf (n := 3) hck rfl
    replace hst : z_iinc nL i9 n9 ip ls st w = some q := hst
    unfold z_iinc at hst
    split at hst
    · rename_i x hx9
      split at hst
      · rename_i hb9
        obtain ⟨j, hj⟩ := zl_ix (ad := ad) (sp := sp) (rh := rh) hx9
        refine lv_iinc (v := x + Int32.ofInt n9) (lv' := zls ad sp rh (zset i9 (.int (x + Int32.ofInt n9)) ls)) hx hb hdec hl (k := j) hj rfl (Nat.le_of_ble_eq_true hb9) (zls_set (ad := ad) (sp := sp) (rh := rh) (v := .int (x + Int32.ofInt n9))) (fun ls' hl' => ?_)
        have g := hgo _ _ st ls' (Option.some.inj hst).symm hl' (zwl_set hw2 rfl) hw3
        rw [hft] at g
        exact g
      · cases hst
    · cases hst
  | i2l =>
    obtain ⟨rfl, hft⟩ := zdf (n := 1) hck rfl
    replace hst : z_i2l ip ls st w = some q := hst
    unfold z_i2l at hst
    split at hst
    · rename_i x r
      rw [List.all_cons, Bool.and_eq_true] at hw3
      have g := hgo _ _ (.long x.toInt64 :: r) lsC (Option.some.inj hst).symm hl hw2 (by rw [List.all_cons, hw3.2]; rfl)
      rw [hft] at g
      exact lv_i2l hx hb hdec rfl g
    · cases hst
  | i2c =>
    obtain ⟨rfl, hft⟩ := zdf (n := 1) hck rfl
    replace hst : z_i2c ip ls st w = some q := hst
    unfold z_i2c at hst
    split at hst
    · rename_i x r
      rw [List.all_cons, Bool.and_eq_true] at hw3
      have g := hgo _ _ (.int (x.toUInt32 % 65536).toInt32 :: r) lsC (Option.some.inj hst).symm hl hw2 (by rw [List.all_cons, hw3.2]; rfl)
      rw [hft] at g
      exact lv_i2c hx hb hdec rfl g
    · rename_i u r
      rw [List.all_cons, Bool.and_eq_true] at hw3
      split at hst
      · rename_i hb9
        rw [decide_eq_true_eq] at hb9
        subst hb9
        have g := hgo _ _ (.float 3 :: r) lsC (Option.some.inj hst).symm hl hw2 (by rw [List.all_cons, hw3.2]; rfl)
        rw [hft, zst_cons] at g
        exact lv_i2c hx hb hdec (show ((rh 1).toUInt32 % 65536).toInt32 = rh 3 from hcf.2.2.1.symm) g
      · split at hst
        · rename_i hb9
          rw [decide_eq_true_eq] at hb9
          subst hb9
          have g := hgo _ _ (.float 4 :: r) lsC (Option.some.inj hst).symm hl hw2 (by rw [List.all_cons, hw3.2]; rfl)
          rw [hft, zst_cons] at g
          exact lv_i2c hx hb hdec (show ((rh 2).toUInt32 % 65536).toInt32 = rh 4 from hcf.2.2.2.1.symm) g
        · cases hst
    · cases hst
  | lcmp =>
    obtain ⟨rfl, hft⟩ := zdf (n := 1) hck rfl
    replace hst : z_lcmp ip ls st w = some q := hst
    unfold z_lcmp at hst
    split at hst
    · rename_i y x r
      rw [List.all_cons, List.all_cons, Bool.and_eq_true, Bool.and_eq_true] at hw3
      have g := hgo _ _ (.int (lg_cmp x y) :: r) lsC (Option.some.inj hst).symm hl hw2 (by rw [List.all_cons, hw3.2.2]; rfl)
      rw [hft] at g
      exact W.lcmp hx hb hdec g
    · cases hst
  | goto off =>
    replace hck : (zln (Instr.goto off, pc, len, ex) && ztg code (Instr.goto off, pc, len, ex) off) = true := hck
    rw [Bool.and_eq_true] at hck
    obtain rfl : len = 3 := of_decide_eq_true hck.1
    replace hst : z_goto ex ls st w = some q := hst
    unfold z_goto at hst
    split at hst
    · rename_i t
      exact lv_goto hx hb hdec (ztg_to hck.2 rfl) (hgo _ _ st lsC (Option.some.inj hst).symm hl hw2 hw3)
    · cases hst
  | if_icmp co off =>
    obtain ⟨rfl, hft, htg⟩ := zdx (n := 3) hck rfl
    replace hst : z_icmp cf co ex ip ls st w = some q := hst
    unfold z_icmp at hst
    split at hst
    · rename_i b9 a9 r
      rw [List.all_cons, List.all_cons, Bool.and_eq_true, Bool.and_eq_true] at hw3
      rcases zbr_to hst with ⟨t, hr, hex, hq⟩ | ⟨hr, hq⟩
      · obtain ⟨x, y, h1, h2, h3, h4⟩ := zcmp_to (ad := ad) (sp := sp) hcf hr
        rw [zst_cons, zst_cons, h1, h2]
        exact zicmp hx hb hdec (ztg_to htg hex) (fun _ => hgo _ _ r lsC hq hl hw2 hw3.2.2) (fun h9 => absurd (h3 rfl) h9)
      · obtain ⟨x, y, h1, h2, h3, h4⟩ := zcmp_to (ad := ad) (sp := sp) hcf hr
        have g := hgo _ _ r lsC hq hl hw2 hw3.2.2
        rw [hft] at g
        rw [zst_cons, zst_cons, h1, h2]
        obtain ⟨t, hex⟩ : ∃ t, ex = [t] := by
          unfold ztg at htg
          dsimp only at htg
          split at htg
          · exact ⟨_, rfl⟩
          · cases htg
        exact zicmp hx hb hdec (ztg_to htg hex) (fun h9 => absurd h9 (h4 rfl)) (fun _ => g)
    · cases hst
  | ifCond co off =>
    obtain ⟨rfl, hft, htg⟩ := zdx (n := 3) hck rfl
    replace hst : z_if cf co ex ip ls st w = some q := hst
    unfold z_if at hst
    split at hst
    · rename_i a9 r
      rw [List.all_cons, Bool.and_eq_true] at hw3
      rcases zbr_to hst with ⟨t, hr, hex, hq⟩ | ⟨hr, hq⟩
      · obtain ⟨x, y, h1, h2, h3, h4⟩ := zcmp_to (ad := ad) (sp := sp) hcf hr
        obtain rfl : 0 = y := Value.int.inj h2
        rw [zst_cons, h1]
        exact zifc hx hb hdec (ztg_to htg hex) (fun _ => hgo _ _ r lsC hq hl hw2 hw3.2) (fun h9 => absurd (h3 rfl) h9)
      · obtain ⟨x, y, h1, h2, h3, h4⟩ := zcmp_to (ad := ad) (sp := sp) hcf hr
        obtain rfl : 0 = y := Value.int.inj h2
        have g := hgo _ _ r lsC hq hl hw2 hw3.2
        rw [hft] at g
        rw [zst_cons, h1]
        obtain ⟨t, hex⟩ : ∃ t, ex = [t] := by
          unfold ztg at htg
          dsimp only at htg
          split at htg
          · exact ⟨_, rfl⟩
          · cases htg
        exact zifc hx hb hdec (ztg_to htg hex) (fun h9 => absurd h9 (h4 rfl)) (fun _ => g)
    · cases hst
  | ifnull off =>
    obtain ⟨rfl, hft, htg⟩ := zdx (n := 3) hck rfl
    replace hst : z_ifnull ex ip ls st w = some q := hst
    unfold z_ifnull at hst
    split at hst
    · rename_i r
      rw [List.all_cons, Bool.and_eq_true] at hw3
      rcases zbr_to hst with ⟨t, hr, hex, hq⟩ | ⟨hr, hq⟩
      · exact lv_ifnullN hx hb hdec (ztg_to htg hex) (hgo _ _ r lsC hq hl hw2 hw3.2)
      · cases hr
    · rename_i a9 r
      rw [List.all_cons, Bool.and_eq_true] at hw3
      rcases zbr_to hst with ⟨t, hr, hex, hq⟩ | ⟨hr, hq⟩
      · cases hr
      · have g := hgo _ _ r lsC hq hl hw2 hw3.2
        rw [hft] at g
        exact lv_ifnull hx hb hdec g
    · cases hst
  | ifnonnull off =>
    obtain ⟨rfl, hft, htg⟩ := zdx (n := 3) hck rfl
    replace hst : z_ifnonnull ex ip ls st w = some q := hst
    unfold z_ifnonnull at hst
    split at hst
    · rename_i r
      rw [List.all_cons, Bool.and_eq_true] at hw3
      rcases zbr_to hst with ⟨t, hr, hex, hq⟩ | ⟨hr, hq⟩
      · cases hr
      · have g := hgo _ _ r lsC hq hl hw2 hw3.2
        rw [hft] at g
        exact lv_ifnonnullN hx hb hdec g
    · rename_i a9 r
      rw [List.all_cons, Bool.and_eq_true] at hw3
      rcases zbr_to hst with ⟨t, hr, hex, hq⟩ | ⟨hr, hq⟩
      · exact lv_ifnonnull hx hb hdec (ztg_to htg hex) (hgo _ _ r lsC hq hl hw2 hw3.2)
      · cases hr
    · cases hst
  | tableswitch d lo hi offs =>
    replace hst : z_tsw cf d lo hi offs code pc ex ls st w = some q := hst
    unfold z_tsw at hst
    split at hst
    · rename_i x r
      rw [List.all_cons, Bool.and_eq_true] at hw3
      split at hst
      · rename_i hb9
        obtain ⟨t, ht, -, hoff, hq⟩ := zjump_to hst
        rw [Bool.or_eq_true, decide_eq_true_eq, decide_eq_true_eq] at hb9
        exact lv_tableOut hx hb hdec hb9 hoff (hgo _ _ r lsC hq hl hw2 hw3.2)
      · rename_i hb9
        rw [Bool.or_eq_false_iff, decide_eq_false_iff_not, decide_eq_false_iff_not] at hb9
        split at hst
        · rename_i off ho
          obtain ⟨t, ht, -, hoff, hq⟩ := zjump_to hst
          exact lv_tableIn hx hb hdec hb9.1 hb9.2 ho hoff (hgo _ _ r lsC hq hl hw2 hw3.2)
        · cases hst
    · rename_i u r
      rw [List.all_cons, Bool.and_eq_true] at hw3
      split at hst
      · rename_i q9 hq9
        split at hst
        · rename_i hb9
          rw [decide_eq_true_eq] at hb9
          obtain ⟨t, ht, -, hoff, hq⟩ := zjump_to hst
          have h2 := (hcf.2.1 _ _ hq9).1
          exact lv_tableOut hx hb hdec (Or.inr (by omega)) hoff (hgo _ _ r lsC hq hl hw2 hw3.2)
        · cases hst
      · cases hst
    · cases hst
  | lookupswitch d ps =>
    replace hst : z_lsw d ps code pc ex ls st w = some q := hst
    unfold z_lsw at hst
    split at hst
    · rename_i x r
      rw [List.all_cons, Bool.and_eq_true] at hw3
      obtain ⟨t, ht, hb9, hoff, hq⟩ := zjump_to hst
      exact lv_lookup hx hb hdec hb9 rfl hoff (hgo _ _ r lsC hq hl hw2 hw3.2)
    · cases hst
  | getfield idx =>
    obtain ⟨rfl, hft, hwd⟩ := zdx (n := 3) hck rfl
    replace hst : z_getf ex ip ls st w = some q := hst
    unfold z_getf at hst
    split at hst
    · rename_i ci k ex9 a r
      rw [List.all_cons, Bool.and_eq_true] at hw3
      split at hst
      · cases hst
      · rename_i fs hfs
        split at hst
        · rename_i v hv
          split at hst
          · cases hst
          · rename_i hnd
            have hob := zobj_to hfs
            have hww := List.all_eq_true.mp hw1 _ (List.mem_of_getElem? hob)
            have g := hgo _ _ (v :: r) lsC (Option.some.inj hst).symm hl hw2 (by rw [List.all_cons, List.all_eq_true.mp hww v (List.mem_of_getElem? hv), hw3.2]; rfl)
            rw [hft, zst_cons, zv_nd (sp' := zz) hnd] at g
            have hv' : (fs.map (zv ad zz rh))[k]? = some (zv ad zz rh v) := by rw [List.getElem?_map, hv]; rfl
            dsimp only at hwd
            split at hwd
            · rename_i ci' k' j' heq
              obtain ⟨rfl, rfl, -⟩ : ci = ci' ∧ k = k' ∧ ex9 = [j'] := by simpa using heq
              split at hwd
              · rename_i cq hcq
                obtain ⟨cC, cT, cN⟩ := cq
                rw [Bool.and_eq_true, decide_eq_true_eq] at hwd
                exact va_get (Ts := ztbl) (C := cC) (T := cT) (N := cN) hx hb hts (zcl_to hcq).1 hown hK hP a (zw_at hob) hcq k hwd.1 (hts _ (zwd_to hwd.2)) (fun _ h9 => h9) hv' hdec g
              · cases hwd
            · rename_i ci' k' f' y' heq
              obtain ⟨rfl, rfl, -⟩ : ci = ci' ∧ k = k' ∧ ex9 = [f', y'] := by simpa using heq
              split at hwd
              · rename_i cq hcq
                obtain ⟨cC, cT, cN⟩ := cq
                rw [Bool.and_eq_true, decide_eq_true_eq, decide_eq_true_eq] at hwd
                exact va_getN (Ts := ztbl) (C := cC) (T := cT) (N := cN) hx hb hts (zcl_to hcq).1 hown hK hP a (zw_at hob) hcq k hwd.1 (va_Nw.use rfl (hZ.1 _ (List.mem_of_getElem? hwd.2))) (fun _ h9 => h9) hv' hdec g
              · cases hwd
            · cases hwd
        · cases hst
    · cases hst
  | putfield idx =>
    obtain ⟨rfl, hft, hwd⟩ := zdx (n := 3) hck rfl
    replace hst : z_putf ex ip ls st w = some q := hst
    unfold z_putf at hst
    split at hst
    · rename_i ci k ex9 v a r
      rw [List.all_cons, List.all_cons, Bool.and_eq_true, Bool.and_eq_true] at hw3
      split at hst
      · rename_i fs cq hfs hcq
        obtain ⟨cC, cT, cN⟩ := cq
        split at hst
        · rename_i hb9
          rw [Bool.and_eq_true] at hb9
          have hob := zobj_to hfs
          have hww := List.all_eq_true.mp hw1 _ (List.mem_of_getElem? hob)
          obtain ⟨hn1, hf1, hv1, hnd⟩ := zfit_to (ad := ad) (sp := sp) (rh := rh) hb9.1
          have hkl : k < (fs.map (zv ad zz rh)).length := by rw [List.length_map]; exact Nat.le_of_ble_eq_true hb9.2
          have hq := (Option.some.inj hst).symm
          have hset : zw tc ad rh (w.set a (.inr (ci, fs.set k v))) = (zw tc ad rh w).set a (ad a, .inr (ci, (fs.map (zv ad zz rh)).set k (zv ad zz rh v))) := by
            rw [zw_set]
            show _ = (zw tc ad rh w).set a (ad a, .inr (ci, (fs.map (zv ad zz rh)).set k (zv ad zz rh v)))
            rw [← List.map_set]
            rfl
          have hwn : (w.set a (.inr (ci, fs.set k v))).all (zwe (w.set a (.inr (ci, fs.set k v))).length) = true := by
            refine zww_set hw1 ?_
            refine List.all_eq_true.mpr fun z hz => ?_
            rcases List.mem_or_eq_of_mem_set hz with hz | rfl
            · exact List.all_eq_true.mp hww z hz
            · exact hw3.1
          have hgn : ∀ (H1 : Heap) (locs1 : List Loc), va_P D zcl ((zw tc ad rh w).set a (ad a, .inr (ci, (fs.map (zv ad zz rh)).set k (zv ad zz rh v)))) H1 → va_D A ((zw tc ad rh w).set a (ad a, .inr (ci, (fs.map (zv ad zz rh)).set k (zv ad zz rh v)))) → va_S A s.heap H1 locs1 → W p l en R s m args below meth c H1 locs1 cells slots Q (F0 m (pc + 3) lsC (zst ad sp rh r)) := by
            intro H1 locs1 hP1 hD1 hS1
            rw [← hset] at hP1 hD1
            subst hq
            have g := hk ad sp H1 locs1 lsC (fun _ _ => rfl) rfl hP1 hD1 hS1 hl (zwf_of hwn (by rw [List.length_set]; exact hw2) (by rw [List.length_set]; exact hw3.2.2)) (by rw [List.length_set]; exact Nat.le_refl _)
            rw [hft] at g
            exact g
          dsimp only at hwd
          split at hwd
          · rename_i ci' k' j' heq
            obtain ⟨rfl, rfl, -⟩ : ci = ci' ∧ k = k' ∧ ex9 = [j'] := by simpa using heq
            rw [hcq] at hwd
            dsimp only at hwd
            rw [Bool.and_eq_true, Bool.and_eq_true, decide_eq_true_eq] at hwd
            obtain ⟨hkN, hwl, hfin⟩ := hwd
            rw [zst_cons, zst_cons, hv1]
            obtain ⟨hu1, hu2, hu3, -⟩ := zcl_to hcq
            split at hfin
            · rename_i hfl
              rw [Bool.and_eq_true, decide_eq_true_eq, decide_eq_true_eq] at hfin
              exact va_putF (Ts := ztbl) (C := cC) (T := cT) (N := cN) (ty := zfty cT k) hx hb hts hu1 (zfty cT) hu2 hu3 hown hK hP hD hS a (zw_at hob) hcq k hkN (hts _ (zwd_to hwl)) (fun _ h9 => h9) hfl (hnm hfin.1) hfin.2 (hu2 k hkN) hn1 hf1 hkl hdec hgn
            · rename_i hfl
              exact va_put (Ts := ztbl) (C := cC) (T := cT) (N := cN) (ty := zfty cT k) hx hb hts hu1 (zfty cT) hu2 hu3 hown hK hP hD hS a (zw_at hob) hcq k hkN (hts _ (zwd_to hwl)) (fun _ h9 => h9) hfl (hu2 k hkN) hn1 hf1 hkl hdec hgn
          · cases hwd
        · cases hst
      · cases hst
    · cases hst
  | new idx =>
    replace hst : z_new ex ip ls st w = some q := hst
    unfold z_new at hst
    split at hst
    · rename_i ci j
      split at hst
      · rename_i cq hcq
        obtain ⟨cC, cT, cN⟩ := cq
        replace hck : (zln (Instr.new idx, pc, len, [ci, j]) && (zft code ip (Instr.new idx, pc, len, [ci, j]) && match zcl[ci]? with
          | some q => zwd j (.classLink own idx q.1)
          | none => false)) = true := hck
        rw [hcq] at hck
        obtain ⟨rfl, hft, hwd⟩ := zdx (n := 3) hck rfl
        have hq := (Option.some.inj hst).symm
        obtain ⟨hu1, hu2, hu3, hu4, hu5, hu6⟩ := zcl_to hcq
        subst hq
        refine va_new (Ts := ztbl) (ci := ci) (fs := zdef cT cN) (C := cC) (T := cT) (N := cN) hx hb hts hu1 (zfty cT) hu2 hown (hts _ (zwd_to hwd)) (hts _ hu4) (hts _ hu5) hK hP hD hS hA hcq (fun j9 hj9 => ?_) hrc hrs hdec (fun a9 H1 hP1 hD1 hS1 => ?_)
        · simp [vp_V, zdef, hj9]
        · have hext : ∀ k9, k9 < w.length → vf_upd ad w.length a9 k9 = ad k9 := fun k9 hk9 => if_neg (Nat.ne_of_lt hk9)
          have hself : vf_upd ad w.length a9 w.length = a9 := if_pos rfl
          have hwq : zw tc (vf_upd ad w.length a9) rh (w ++ [.inr (ci, zdef cT cN)]) = zw tc ad rh w ++ [(a9, .inr (ci, zdef cT cN))] := by
            rw [zw_app, zw_ext hext hw1, hself]
            show _ ++ [(a9, Sum.inr (ci, (zdef cT cN).map (zv _ zz rh)))] = _
            rw [zdef_cv hu6]
          have g := hk (vf_upd ad w.length a9) sp H1 locs lsC hext rfl (by rw [hwq]; exact hP1) (by rw [hwq]; exact hD1) hS1 (by rw [zls_ext hext hw2]; exact hl)
            (zwf_of (zww_app hw1 (zdef_wf hu6)) (by rw [List.length_append]; exact zwl_le (Nat.le_succ _) hw2) (by rw [List.length_append, List.length_singleton, List.all_cons, zst_le (Nat.le_add_right w.length 1) hw3, Bool.and_true]; exact decide_eq_true (Nat.lt_succ_self _))) (by rw [List.length_append]; exact Nat.le_succ _)
          dsimp only at g
          rw [hft, zst_cons, zst_ext hext hw3, show zv (vf_upd ad w.length a9) sp rh (.ref w.length) = .ref a9 from congrArg Value.ref hself] at g
          exact g
      · cases hst
    · cases hst
  | newarray at9 =>
    obtain ⟨rfl, hft, hwd⟩ := zdx (n := 2) hck rfl
    replace hst : z_newai ex ip ls st w = some q := hst
    unfold z_newai at hst
    split at hst
    · rename_i ti j
      unfold z_newa at hst
      split at hst
      · rename_i n r
        rw [List.all_cons, Bool.and_eq_true] at hw3
        split at hst
        · rename_i hb9
          rw [Bool.and_eq_true, decide_eq_true_eq, decide_eq_true_eq] at hb9
          have hq := (Option.some.inj hst).symm
          replace hwd : (decide (ti = zati at9) && (decide (ti < 4) && zwd j (.arrayClass (newarray.typeOf at9)))) = true := hwd
          rw [Bool.and_eq_true, Bool.and_eq_true, decide_eq_true_eq, decide_eq_true_eq] at hwd
          obtain ⟨hti, hti4, hwl⟩ := hwd
          subst hq
          have hN6 := zclamp hb9.1 hb9.2
          have hgn : ∀ (ty : FieldType), newarray.typeOf at9 = ty → (ztys tc)[ti]? = some (tc ti, ty) → componentBytes ty ≤ 8 → (∀ cA : ClassId, vp_cell cA (n.toNatClampNeg, zct rh ti []) = arrV cA n.toNatClampNeg (fun _ => defaultValue ty)) → W p l en R s m args below meth c H locs cells slots Q (F0 m pc lsC (.int n :: zst ad sp rh r)) := by
            intro ty h1 h2 h3 h4
            refine va_newa (atype := at9) hx hb (hts _ (zwd_to hwl)) h1 hK hP hD hS hA (a0 := (n.toNatClampNeg, zct rh ti [])) h4 (znneg hb9.1) rfl (Nat.le_trans (Nat.mul_le_mul hN6 h3) (by decide)) hrc hrs hdec (fun a9 cA H1 hK1 hP1 hD1 hS1 => ?_)
            obtain rfl := zarrA hK1 h2
            have hext : ∀ k9, k9 < w.length → vf_upd ad w.length a9 k9 = ad k9 := fun k9 hk9 => if_neg (Nat.ne_of_lt hk9)
            have hself : vf_upd ad w.length a9 w.length = a9 := if_pos rfl
            have hwq : zw tc (vf_upd ad w.length a9) rh (w ++ [.inl (ti, n.toNatClampNeg, [])]) = zw tc ad rh w ++ [(a9, .inl (tc ti, n.toNatClampNeg, zct rh ti []))] := by
              rw [zw_app, zw_ext hext hw1, hself]
              rfl
            have g := hk (vf_upd ad w.length a9) sp H1 locs lsC hext rfl (by rw [hwq]; exact hP1) (by rw [hwq]; exact hD1) hS1 (by rw [zls_ext hext hw2]; exact hl)
              (zwf_of (zww_app hw1 rfl) (by rw [List.length_append]; exact zwl_le (Nat.le_succ _) hw2) (by rw [List.length_append, List.length_singleton, List.all_cons, zst_le (Nat.le_add_right w.length 1) hw3.2, Bool.and_true]; exact decide_eq_true (Nat.lt_succ_self _))) (by rw [List.length_append]; exact Nat.le_succ _)
            dsimp only at g
            rw [hft, zst_cons, zst_ext hext hw3.2, show zv (vf_upd ad w.length a9) sp rh (.ref w.length) = .ref a9 from congrArg Value.ref hself] at g
            exact g
          cases at9 <;> first | exact absurd hti4 (by rw [hti]; decide) | (subst hti; exact hgn _ rfl rfl (by decide) (fun _ => rfl))
        · cases hst
      · cases hst
    · cases hst
  | anewarray idx =>
    obtain ⟨rfl, hft, hwd⟩ := zdx (n := 3) hck rfl
    replace hst : z_newa 4 ip ls st w = some q := hst
    unfold z_newa at hst
    split at hst
    · rename_i n r
      rw [List.all_cons, Bool.and_eq_true] at hw3
      split at hst
      · rename_i hb9
        rw [Bool.and_eq_true, decide_eq_true_eq, decide_eq_true_eq] at hb9
        have hq := (Option.some.inj hst).symm
        dsimp only at hwd
        split at hwd
        · subst hq
          have hN6 := zclamp hb9.1 hb9.2
          refine va_newq hx hb hown (hts _ (zwd_to hwd)) hZ.2.2.2.1 hK hP hD hS hA (znneg hb9.1) rfl (by omega) hrc hrs hdec (fun a9 cA H1 hK1 hP1 hD1 hS1 => ?_)
          obtain rfl := zarrA (ti := 4) hK1 rfl
          have hext : ∀ k9, k9 < w.length → vf_upd ad w.length a9 k9 = ad k9 := fun k9 hk9 => if_neg (Nat.ne_of_lt hk9)
          have hself : vf_upd ad w.length a9 w.length = a9 := if_pos rfl
          have hwq : zw tc (vf_upd ad w.length a9) rh (w ++ [.inl (4, n.toNatClampNeg, [])]) = zw tc ad rh w ++ [(a9, .inl (tc 4, n.toNatClampNeg, .inr (.inr (.inr (.inr (fun _ => none))))))] := by
            rw [zw_app, zw_ext hext hw1, hself]
            rfl
          have g := hk (vf_upd ad w.length a9) sp H1 locs lsC hext rfl (by rw [hwq]; exact hP1) (by rw [hwq]; exact hD1) hS1 (by rw [zls_ext hext hw2]; exact hl)
            (zwf_of (zww_app hw1 rfl) (by rw [List.length_append]; exact zwl_le (Nat.le_succ _) hw2) (by rw [List.length_append, List.length_singleton, List.all_cons, zst_le (Nat.le_add_right w.length 1) hw3.2, Bool.and_true]; exact decide_eq_true (Nat.lt_succ_self _))) (by rw [List.length_append]; exact Nat.le_succ _)
          dsimp only at g
          rw [hft, zst_cons, zst_ext hext hw3.2, show zv (vf_upd ad w.length a9) sp rh (.ref w.length) = .ref a9 from congrArg Value.ref hself] at g
          exact g
        · cases hwd
      · cases hst
    · cases hst
  | arraylength =>
    obtain ⟨rfl, hft⟩ := zdf (n := 1) hck rfl
    replace hst : z_alen isL cf ip ls st w = some q := hst
    unfold z_alen at hst
    split at hst
    · rename_i a r
      rw [List.all_cons, Bool.and_eq_true] at hw3
      split at hst
      · rename_i o ho
        obtain ⟨t9, n9, l9⟩ := o
        split at hst
        · rename_i hb9
          have g := hgo _ _ (.int (Int32.ofNat n9) :: r) lsC (Option.some.inj hst).symm hl hw2 (by rw [List.all_cons, hw3.2]; rfl)
          rw [hft] at g
          obtain ⟨ty, hty⟩ : ∃ ty, (ztys tc)[t9]? = some (tc t9, ty) := by
            match t9, Nat.le_of_ble_eq_true hb9 with
            | 0, _ => exact ⟨_, rfl⟩
            | 1, _ => exact ⟨_, rfl⟩
            | 2, _ => exact ⟨_, rfl⟩
            | 3, _ => exact ⟨_, rfl⟩
          exact va_alen hx hb hK hP a t9 (zw_at ho) hty rfl hdec g
        · cases hst
      · cases hst
    · rename_i u r
      rw [List.all_cons, Bool.and_eq_true] at hw3
      split at hst
      · rename_i hb9
        rw [Bool.and_eq_true, decide_eq_true_eq] at hb9
        obtain ⟨hL9, rfl⟩ := hb9
        obtain ⟨hX, hbl, hbA⟩ := hscr hL9
        have g := hgo _ _ (.int (Int32.ofNat cf.2.2.1) :: r) lsC (Option.some.inj hst).symm hl hw2 (by rw [List.all_cons, hw3.2]; rfl)
        rw [hft] at g
        exact va_slen hx hb hX hbl hbA hS hdec g
      · cases hst
    · cases hst
  | iaload =>
    obtain ⟨rfl, hft⟩ := zdf (n := 1) hck rfl
    replace hst : z_iald isL cf ip ls st w = some q := hst
    unfold z_iald at hst
    split at hst
    · rename_i i9 a r
      rw [List.all_cons, List.all_cons, Bool.and_eq_true, Bool.and_eq_true] at hw3
      split at hst
      · rename_i o ho
        obtain ⟨n9, l9⟩ := o
        split at hst
        · rename_i x hin9 hrd
          have g := hgo _ _ (.int x :: r) lsC (Option.some.inj hst).symm hl hw2 (by rw [List.all_cons, hw3.2.2]; rfl)
          rw [hft, zst_cons, show zv ad sp rh (.int x) = .int (zci id rh l9 i9.toNatClampNeg) from by rw [zrd_int rh l9 _ hrd]; rfl] at g
          exact va_iald hx hb hK hP a 0 (f := zci id rh l9) (zw_at (zarr_to ho)) rfl (zin_to hin9) hdec g
        · cases hst
      · cases hst
    · rename_i i9 u r
      rw [List.all_cons, List.all_cons, Bool.and_eq_true, Bool.and_eq_true] at hw3
      split at hst
      · rename_i hb9
        rw [Bool.and_eq_true, Bool.and_eq_true, Bool.and_eq_true, decide_eq_true_eq, decide_eq_true_eq] at hb9
        obtain ⟨hL9, rfl, hin9, h39⟩ := hb9
        obtain ⟨hX, hbl, hbA⟩ := hscr hL9
        have hge : 0 ≤ i9.toInt := by
          unfold zin at hin9
          rw [Bool.and_eq_true, decide_eq_true_eq] at hin9
          exact hin9.1
        have h3 : i9.toNatClampNeg < 3 := by
          have : i9.toNatClampNeg = i9.toInt.toNat := rfl
          omega
        split at hst
        · rename_i v9 hv9
          have g := hgo _ _ (.int v9 :: r) lsC (Option.some.inj hst).symm hl hw2 (by rw [List.all_cons, hw3.2.2]; rfl)
          rw [hft, zst_cons, show zv ad sp rh (.int v9) = .int (rh i9.toNatClampNeg) from by rw [hcf.2.2.2.2.2.2 _ _ hv9]; rfl] at g
          exact va_sld hx hb hX hbl hbA hS (zin_to hin9) hdec g
        · have g := hgo _ _ (.float (UInt32.ofNat i9.toNatClampNeg) :: r) lsC (Option.some.inj hst).symm hl hw2 (by rw [List.all_cons, hw3.2.2]; rfl)
          have e9 : (UInt32.ofNat i9.toNatClampNeg).toNat = i9.toNatClampNeg := by
            generalize i9.toNatClampNeg = k9 at h3
            match k9, h3 with
            | 0, _ => rfl
            | 1, _ => rfl
            | 2, _ => rfl
          rw [hft, zst_cons, show zv ad sp rh (.float (UInt32.ofNat i9.toNatClampNeg)) = .int (rh i9.toNatClampNeg) from by show Value.int (rh (UInt32.ofNat i9.toNatClampNeg).toNat) = _; rw [e9]] at g
          exact va_sld hx hb hX hbl hbA hS (zin_to hin9) hdec g
      · cases hst
    · cases hst
  | laload =>
    obtain ⟨rfl, hft⟩ := zdf (n := 1) hck rfl
    replace hst : z_lald ip ls st w = some q := hst
    unfold z_lald at hst
    split at hst
    · rename_i i9 a r
      rw [List.all_cons, List.all_cons, Bool.and_eq_true, Bool.and_eq_true] at hw3
      split at hst
      · rename_i o ho
        obtain ⟨n9, l9⟩ := o
        split at hst
        · rename_i x hin9 hrd
          have g := hgo _ _ (.long x :: r) lsC (Option.some.inj hst).symm hl hw2 (by rw [List.all_cons, hw3.2.2]; rfl)
          rw [hft, zst_cons, show zv ad sp rh (.long x) = .long (zcj l9 i9.toNatClampNeg) from by rw [zrd_long l9 _ hrd]; rfl] at g
          exact va_lald hx hb hK hP a 2 (f := zcj l9) (zw_at (zarr_to ho)) rfl (zin_to hin9) hdec g
        · cases hst
      · cases hst
    · cases hst
  | iastore =>
    obtain ⟨rfl, hft⟩ := zdf (n := 1) hck rfl
    obtain ⟨v, i9, a, r, n9, l9, rfl, ho, hv, hin9, hq⟩ := zast_to (show zast 0 ip ls st w = some q from hst)
    obtain ⟨x9, hx9⟩ := zisI_to (ad := ad) (sp := sp) (rh := rh) hv
    rw [List.all_cons, List.all_cons, List.all_cons, Bool.and_eq_true, Bool.and_eq_true, Bool.and_eq_true] at hw3
    have hset : zw tc ad rh (w.set a (.inl (0, n9, (i9.toNatClampNeg, v) :: l9))) = (zw tc ad rh w).set a (ad a, .inl (tc 0, n9, .inl (upd (zci id rh l9) i9.toNatClampNeg x9))) := by
      rw [zw_set]
      show _ = (zw tc ad rh w).set a (ad a, .inl (tc 0, n9, .inl (upd (zci id rh l9) i9.toNatClampNeg x9)))
      rw [← zint_of (ad := ad) (sp := sp) hx9]
      rfl
    rw [zst_cons, hx9]
    refine va_iast hx hb hK hP hD hS a 0 (f := zci id rh l9) (zw_at ho) rfl (zin_to hin9) hdec (fun H1 locs1 hP1 hD1 hS1 => ?_)
    rw [← hset] at hP1 hD1
    subst hq
    have g := hk ad sp H1 locs1 lsC (fun _ _ => rfl) rfl hP1 hD1 hS1 hl (zwf_of (zww_set hw1 rfl) (by rw [List.length_set]; exact hw2) (by rw [List.length_set]; exact hw3.2.2.2)) (by rw [List.length_set]; exact Nat.le_refl _)
    rw [hft] at g
    exact g
  | castore =>
    obtain ⟨rfl, hft⟩ := zdf (n := 1) hck rfl
    obtain ⟨v, i9, a, r, n9, l9, rfl, ho, hv, hin9, hq⟩ := zast_to (show zast 1 ip ls st w = some q from hst)
    obtain ⟨x9, hx9⟩ := zisI_to (ad := ad) (sp := sp) (rh := rh) hv
    rw [List.all_cons, List.all_cons, List.all_cons, Bool.and_eq_true, Bool.and_eq_true, Bool.and_eq_true] at hw3
    have hset : zw tc ad rh (w.set a (.inl (1, n9, (i9.toNatClampNeg, v) :: l9))) = (zw tc ad rh w).set a (ad a, .inl (tc 1, n9, .inl (upd (zci (vp_nar .char) rh l9) i9.toNatClampNeg (vp_nar .char x9)))) := by
      rw [zw_set]
      show _ = (zw tc ad rh w).set a (ad a, .inl (tc 1, n9, .inl (upd (zci (vp_nar .char) rh l9) i9.toNatClampNeg (vp_nar .char x9))))
      rw [← zint_of (ad := ad) (sp := sp) hx9]
      rfl
    rw [zst_cons, hx9]
    refine va_cast hx hb hK hP hD hS a 1 (f := zci (vp_nar .char) rh l9) (zw_at ho) rfl (zin_to hin9) hdec (fun H1 locs1 hP1 hD1 hS1 => ?_)
    rw [← hset] at hP1 hD1
    subst hq
    have g := hk ad sp H1 locs1 lsC (fun _ _ => rfl) rfl hP1 hD1 hS1 hl (zwf_of (zww_set hw1 rfl) (by rw [List.length_set]; exact hw2) (by rw [List.length_set]; exact hw3.2.2.2)) (by rw [List.length_set]; exact Nat.le_refl _)
    rw [hft] at g
    exact g
  | lastore =>
    obtain ⟨rfl, hft⟩ := zdf (n := 1) hck rfl
    obtain ⟨v, i9, a, r, n9, l9, rfl, ho, hv, hin9, hq⟩ := zast_to (show zast 2 ip ls st w = some q from hst)
    obtain ⟨x9, rfl⟩ := zisL_to hv
    rw [List.all_cons, List.all_cons, List.all_cons, Bool.and_eq_true, Bool.and_eq_true, Bool.and_eq_true] at hw3
    have hset : zw tc ad rh (w.set a (.inl (2, n9, (i9.toNatClampNeg, .long x9) :: l9))) = (zw tc ad rh w).set a (ad a, .inl (tc 2, n9, .inr (.inl (vp_updL (zcj l9) i9.toNatClampNeg x9)))) := by
      rw [zw_set]
      rfl
    refine va_last hx hb hK hP hD hS a 2 (f := zcj l9) (zw_at ho) rfl (zin_to hin9) hdec (fun H1 locs1 hP1 hD1 hS1 => ?_)
    rw [← hset] at hP1 hD1
    subst hq
    have g := hk ad sp H1 locs1 lsC (fun _ _ => rfl) rfl hP1 hD1 hS1 hl (zwf_of (zww_set hw1 rfl) (by rw [List.length_set]; exact hw2) (by rw [List.length_set]; exact hw3.2.2.2)) (by rw [List.length_set]; exact Nat.le_refl _)
    rw [hft] at g
    exact g
  | invokespecial idx =>
    obtain ⟨rfl, hft, hwd⟩ := zdx (n := 3) hck rfl
    replace hst : z_objI ip ls st w = some q := hst
    unfold z_objI at hst
    split at hst
    · rename_i a r
      rw [List.all_cons, Bool.and_eq_true] at hw3
      split at hst
      · rename_i hb9
        have g := hgo _ _ r lsC (Option.some.inj hst).symm hl hw2 hw3.2
        rw [hft] at g
        obtain ⟨j, rfl⟩ : ∃ j, ex = [j] := by
          replace hkind : zkind (Instr.invokespecial idx) ex = 2 := hkind
          unfold zkind at hkind
          dsimp only at hkind
          split at hkind
          · exact ⟨_, rfl⟩
          · cases hkind
        have hsum := lv_room (pc := pc) (ls := lsC) (m := m) (rest := zst ad sp rh (.ref a :: r)) (st := zst ad sp rh r) (by rw [zsum_eq]; exact Nat.le_of_ble_eq_true hb9)
        exact W.objInit hx hb hown (hts _ (zwd_to hwd)) (hts _ zobj_w.1) (hts _ zobj_w.2) rfl (hl.1.trans hmL.symm) rfl hdec hR.1 (Nat.le_trans (Nat.add_le_add_right hsum 12) hR.2) g
      · cases hst
    · cases hst
  | _ => exact absurd (show none = some q from hst) (fun h9 => nomatch h9)
