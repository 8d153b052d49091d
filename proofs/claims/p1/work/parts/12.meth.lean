/-! A WHOLE METHOD -/
def zxchk (M : zM) : Bool := decide (zpc M.2.2.2.2.2.2.2.2.2 0 = 0) && (decide (M.2.2.2.2.1 = []) || decide (M.1.cls = "MacrocosmLaw"))
set_option maxRecDepth 100000 in
theorem zx_all : zp.all zxchk = true := by decide +kernel
theorem zkind_le (i : Instr) (ex : List Nat) : zkind i ex ≤ 2 := by
  unfold zkind
  split
  all_goals first | decide | (split <;> decide)
theorem zkind_2 {i : Instr} {ex : List Nat} (h0 : zkind i ex = 0 → False) (h1 : zkind i ex = 1 → False) : zkind i ex = 2 := by
  have h2 := zkind_le i ex
  generalize zkind i ex = k at h0 h1 h2 ⊢
  match k, h0, h1, h2 with
  | 0, h0, _, _ => exact (h0 rfl).elim
  | 1, _, h1, _ => exact (h1 rfl).elim
  | 2, _, _, _ => rfl
  | k + 3, _, _, h2 => exact absurd h2 (by omega)
theorem zcd_to {own nm : String} {cc : ByteArray} {code : List zI} (h : zcdchk own nm cc code = true) {ip : Nat} {e : zI} (he : code[ip]? = some e) (hn : e.1 ≠ .nop) : zchk own nm cc code ip e = true := by
  have hm : (e, ip) ∈ code.zipIdx := List.mem_of_getElem? (i := ip) (by rw [List.getElem?_zipIdx, he]; simp)
  have := List.all_eq_true.mp h _ hm
  rw [Bool.or_eq_true, decide_eq_true_eq] at this
  exact this.resolve_left hn
theorem zloop_le {call : Nat → List Value → List zE → Option zO} {isL : Bool} {cf : zF} {nL : Nat} {code : List zI} : ∀ (n ip : Nat) (ls : zL) (st : List Value) (w : List zE) (dc ds : Nat) (q : zN), zloop call isL cf nL code n ip ls st w dc ds = some q → dc ≤ q.2.2.2.2.1 ∧ ds ≤ q.2.2.2.2.2 := by
  intro n
  induction n with
  | zero =>
    intro ip ls st w dc ds q h
    unfold zloop at h
    cases h
  | succ n ih =>
    intro ip ls st w dc ds q h
    unfold zloop at h
    split at h
    · cases h
    · split at h
      · obtain rfl := Option.some.inj h
        exact ⟨Nat.le_refl _, Nat.le_refl _⟩
      · split at h
        · cases h
        · have := ih _ _ _ _ _ _ _ h
          exact ⟨Nat.le_trans (Nat.le_add_right _ _) this.1, Nat.le_trans (Nat.le_add_right _ _) this.2⟩
      · split at h
        · cases h
        · have := ih _ _ _ _ _ _ _ h
          exact ⟨Nat.le_trans (Nat.le_add_right _ _) this.1, Nat.le_trans (Nat.le_add_right _ _) this.2⟩
set_option maxHeartbeats 4000000 in
theorem zloop_ok {p : Program} {l : Launch} {en : Env} {R : Room} {s : State} {m : MethodId} {args : Array Value} {below : List Frame} {meth : Method} {c : Code} {Q : State → Prop}
    {cc : ByteArray} {own nm : String} {nL : Nat} {D : va_G} {tc : Nat → ClassId} {A : Nat → Prop} {rh : Nat → Int32} {sp0 : Nat} {cf : zF} {isL : Bool} {code : List zI} {call : Nat → List Value → List zE → Option zO} {d : Nat} {hh : List (Nat × Nat × Nat × Nat)}
    (C : zC0 p s m args meth c cc own nm nL D tc A) (hcf : zcfok cf rh) (hscr : isL = true → va_X sp0 cf.2.2.1 rh s s.heap ∧ sp0 < s.heap.size ∧ ¬ A sp0) (hcall : zOK l cf d call) (hT : hh ≠ [] → c.exceptionTable.toList = tableOf hh) (hzh : zhchk hh own code = true) (hzi : zikchk own code = true) (hRf : 9 + d ≤ R.frames) (hRl : 300 + 100 * d ≤ R.locals) (hcd : zcdchk own nm cc code = true) :
    ∀ (n ip : Nat) (ls : zL) (st : List Value) (w : List zE) (dc ds : Nat) (q : zN) (ad sp : Nat → Nat) (H : Heap) (locs : List Loc) (lsC : Array Slot), zloop call isL cf nL code n ip ls st w dc ds = some q → q.2.2.2.2.1 ≤ R.cells → q.2.2.2.2.2 ≤ R.slots →
      va_P D zcl (zw tc ad rh w) H → va_D A (zw tc ad rh w) → va_S A s.heap H locs → lv_has lsC nL (zls ad sp rh ls) → zwf ls st w = true → sp 0 = sp0 →
      zK (fun H locs k n g => W p l en R s m args below meth c H locs k n Q g) m D tc rh A s.heap nL code ad sp w.length q q.2.2.2.2.1 q.2.2.2.2.2 →
      W p l en R s m args below meth c H locs dc ds Q (F0 m (zpc code ip) lsC (zst ad sp rh st)) := by
  intro n
  induction n with
  | zero =>
    intro ip ls st w dc ds q ad sp H locs lsC h
    unfold zloop at h
    cases h
  | succ n ih =>
    intro ip ls st w dc ds q ad sp H locs lsC h hrc hrs hP hD hS hl hw hsp hk
    unfold zloop at h
    split at h
    · cases h
    · rename_i e he
      split at h
      · obtain rfl := Option.some.inj h
        exact hk ad sp H locs lsC (fun _ _ => rfl) rfl hP hD hS hl hw (Nat.le_refl _)
      · rename_i hk1
        split at h
        · cases h
        · rename_i q1 hq1
          have hle := zloop_le _ _ _ _ _ _ _ _ h
          have hne : e.1 ≠ .nop := by
            intro h9
            rw [h9] at hk1
            cases hk1
          refine zcall_ok C hcf hcall hT hzh hzi hRf hRl he (zcd_to hcd he hne) hk1 hq1 hP hD hS hl hw (Nat.le_trans hle.1 hrc) (Nat.le_trans hle.2 hrs) ?_
          intro ad1 sp1 H1 locs1 lsC1 e1 e2 hP1 hD1 hS1 hl1 hw1 hn1
          refine ih _ _ _ _ _ _ _ ad1 sp1 H1 locs1 lsC1 h hrc hrs hP1 hD1 hS1 hl1 hw1 (e2.trans hsp) ?_
          intro ad2 sp2 H2 locs2 lsC2 f1 f2 hP2 hD2 hS2 hl2 hw2 hn2
          exact hk ad2 sp2 H2 locs2 lsC2 (fun k hk => (f1 k (Nat.lt_of_lt_of_le hk hn1)).trans (e1 k hk)) (f2.trans e2) hP2 hD2 hS2 hl2 hw2 (Nat.le_trans hn1 hn2)
      · rename_i hk2a hk2b
        split at h
        · cases h
        · rename_i q1 hq1
          have hle := zloop_le _ _ _ _ _ _ _ _ h
          have hne : e.1 ≠ .nop := by
            intro h9
            obtain ⟨i9, r9⟩ := e
            replace h9 : i9 = .nop := h9
            subst h9
            cases (show (none : Option zN) = some q1 from hq1)
          refine zstep_ok C hcf (fun h9 => by rw [hsp]; exact hscr h9) ⟨by omega, by omega⟩ he (zcd_to hcd he hne) (zkind_2 hk2a hk2b) hq1 hP hD hS hl hw (Nat.le_trans hle.1 hrc) (Nat.le_trans hle.2 hrs) ?_
          intro ad1 sp1 H1 locs1 lsC1 e1 e2 hP1 hD1 hS1 hl1 hw1 hn1
          refine ih _ _ _ _ _ _ _ ad1 sp1 H1 locs1 lsC1 h hrc hrs hP1 hD1 hS1 hl1 hw1 (e2.trans hsp) ?_
          intro ad2 sp2 H2 locs2 lsC2 f1 f2 hP2 hD2 hS2 hl2 hw2 hn2
          exact hk ad2 sp2 H2 locs2 lsC2 (fun k hk => (f1 k (Nat.lt_of_lt_of_le hk hn1)).trans (e1 k hk)) (f2.trans e2) hP2 hD2 hS2 hl2 hw2 (Nat.le_trans hn1 hn2)
theorem zsl_len {ad sp : Nat → Nat} {rh : Nat → Int32} (av : List Value) : (lg_sl (zst ad sp rh av)).length = zsum av := by
  induction av with
  | nil => rfl
  | cons v r ih =>
    unfold lg_sl at ih ⊢
    rw [zst_cons, List.flatMap_cons, List.length_append, ih]
    show _ = zcat v + zsum r
    congr 1
    cases v <;> rfl
theorem zargs_eq {ad sp : Nat → Nat} {rh : Nat → Int32} (av : List Value) : ∀ i : Nat, lv_args i (zst ad sp rh av) = zls ad sp rh (zargs i av) := by
  induction av with
  | nil => intro i; rfl
  | cons v r ih =>
    intro i
    rw [zst_cons]
    unfold lv_args zargs
    show _ = (i, zv ad sp rh v) :: zls ad sp rh (zargs (i + zcat v) r)
    rw [← ih]
    cases v <;> rfl
theorem zargs_wf {n : Nat} {av : List Value} (h : av.all (zwv n) = true) : ∀ i : Nat, zwl n (zargs i av) = true := by
  induction av with
  | nil => intro i; rfl
  | cons v r ih =>
    intro i
    rw [List.all_cons, Bool.and_eq_true] at h
    unfold zargs zwl
    rw [List.all_cons, h.1]
    exact ih h.2 _
theorem zout_to {ret : Option FieldType} {code : List zI} {q : zN} {o : zO} (h : zout ret code q = some o) : ∃ e, code[q.1]? = some e ∧ (
    (∃ x ty, e.1 = .ireturn ∧ q.2.2.1 = [.int x] ∧ ret = some ty ∧ narrow ty (.int x) = .int x ∧ o = (0, some (.int x), q.2.2.2.1, q.2.2.2.2.1, q.2.2.2.2.2)) ∨
    (∃ x, e.1 = .lreturn ∧ q.2.2.1 = [.long x] ∧ ret = some .long ∧ o = (0, some (.long x), q.2.2.2.1, q.2.2.2.2.1, q.2.2.2.2.2)) ∨
    (∃ v n, e.1 = .areturn ∧ q.2.2.1 = [v] ∧ ret = some (.object n) ∧ (v = .null ∨ ∃ a, v = .ref a) ∧ o = (0, some v, q.2.2.2.1, q.2.2.2.2.1, q.2.2.2.2.2)) ∨
    (e.1 = .return_ ∧ q.2.2.1 = [] ∧ ret = none ∧ o = (0, none, q.2.2.2.1, q.2.2.2.2.1, q.2.2.2.2.2)) ∨
    (∃ idx E a b c r, e.1 = .new idx ∧ e.2.2.2 = E :: a :: b :: c :: r ∧ zsum q.2.2.1 ≤ 8 ∧ o = (E + 1, none, q.2.2.2.1, q.2.2.2.2.1 + 1, q.2.2.2.2.2 + 6))) := by
  unfold zout at h
  split at h
  · cases h
  · rename_i e he
    refine ⟨e, he, ?_⟩
    split at h
    · rename_i x h1 h2
      split at h
      · rename_i ty
        split at h
        · rename_i hn
          exact Or.inl ⟨x, ty, h1, h2, rfl, of_decide_eq_true hn, (Option.some.inj h).symm⟩
        · cases h
      · cases h
    · rename_i x h1 h2
      split at h
      · rename_i hn
        exact Or.inr (Or.inl ⟨x, h1, h2, of_decide_eq_true hn, (Option.some.inj h).symm⟩)
      · cases h
    · rename_i v h1 h2
      split at h
      · exact Or.inr (Or.inr (Or.inl ⟨_, _, h1, h2, rfl, Or.inr ⟨_, rfl⟩, (Option.some.inj h).symm⟩))
      · exact Or.inr (Or.inr (Or.inl ⟨_, _, h1, h2, rfl, Or.inl rfl, (Option.some.inj h).symm⟩))
      · cases h
    · rename_i h1 h2
      split at h
      · rename_i hn
        exact Or.inr (Or.inr (Or.inr (Or.inl ⟨h1, h2, of_decide_eq_true hn, (Option.some.inj h).symm⟩)))
      · cases h
    · rename_i idx h1
      split at h
      · rename_i E a b c r hex hs
        exact Or.inr (Or.inr (Or.inr (Or.inr ⟨idx, E, a, b, c, r, h1, hex, Nat.le_of_ble_eq_true hs, (Option.some.inj h).symm⟩)))
      · cases h
    · cases h
