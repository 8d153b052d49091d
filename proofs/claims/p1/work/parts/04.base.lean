/-! WHAT THE LISTS STAND FOR -/
section ZB
variable {tc : Nat → ClassId} {ad ad' sp sp' : Nat → Nat} {rh : Nat → Int32}
def zv (ad sp : Nat → Nat) (rh : Nat → Int32) : Value → Value
  | .int x => .int x
  | .long x => .long x
  | .float u => .int (rh u.toNat)
  | .double u => .ref (sp u.toNat)
  | .null => .null
  | .ref k => .ref (ad k)
  | .retAddr k => .retAddr k
def zz : Nat → Nat := fun _ => 0
theorem zv_cat (v : Value) : (zv ad sp rh v).category = zcat v := by cases v <;> rfl
def zint (rh : Nat → Int32) : Value → Int32
  | .int x => x
  | .float u => rh u.toNat
  | _ => 0
def zlong : Value → Int64
  | .long x => x
  | _ => 0
def zci (g : Int32 → Int32) (rh : Nat → Int32) : List (Nat × Value) → Nat → Int32
  | [] => fun _ => 0
  | q :: r => upd (zci g rh r) q.1 (g (zint rh q.2))
def zcj : List (Nat × Value) → Nat → Int64
  | [] => fun _ => 0
  | q :: r => vp_updL (zcj r) q.1 (zlong q.2)
def zct (rh : Nat → Int32) (t : Nat) (l : List (Nat × Value)) : (Nat → Int32) ⊕ (Nat → Int64) ⊕ (Nat → UInt32) ⊕ (Nat → UInt64) ⊕ (Nat → Option Nat) := match t with
  | 0 => .inl (zci id rh l)
  | 1 => .inl (zci (vp_nar .char) rh l)
  | 2 => .inr (.inl (zcj l))
  | 3 => .inl (zci (vp_nar .byte) rh l)
  | _ => .inr (.inr (.inr (.inr (fun _ => none))))
def ze (tc : Nat → ClassId) (ad : Nat → Nat) (rh : Nat → Int32) : zE → va_E
  | .inl o => .inl (tc o.1, o.2.1, zct rh o.1 o.2.2)
  | .inr o => .inr (o.1, o.2.map (zv ad zz rh))
def zw (tc : Nat → ClassId) (ad : Nat → Nat) (rh : Nat → Int32) (w : List zE) : va_W := w.mapIdx (fun k e => (ad k, ze tc ad rh e))
def zls (ad sp : Nat → Nat) (rh : Nat → Int32) (ls : zL) : List (Nat × Value) := ls.map (fun q => (q.1, zv ad sp rh q.2))
def zst (ad sp : Nat → Nat) (rh : Nat → Int32) (st : List Value) : List Value := st.map (zv ad sp rh)
def zwv (n : Nat) : Value → Bool
  | .ref k => decide (k < n)
  | _ => true
def zwe (n : Nat) : zE → Bool
  | .inl _ => true
  | .inr o => o.2.all (zwv n)
def zwl (n : Nat) (ls : zL) : Bool := ls.all (fun q => zwv n q.2)
def zwf (ls : zL) (st : List Value) (w : List zE) : Bool := w.all (zwe w.length) && (zwl w.length ls && st.all (zwv w.length))
theorem zv_ext {n : Nat} (h : ∀ k, k < n → ad' k = ad k) {v : Value} (hv : zwv n v = true) : zv ad' sp rh v = zv ad sp rh v := by
  cases v with
  | ref k => show Value.ref _ = Value.ref _; rw [h k (of_decide_eq_true hv)]
  | _ => rfl
theorem zst_ext {n : Nat} (h : ∀ k, k < n → ad' k = ad k) {st : List Value} (hv : st.all (zwv n) = true) : zst ad' sp rh st = zst ad sp rh st := by
  refine List.map_congr_left fun v hm => zv_ext h (List.all_eq_true.mp hv v hm)
theorem zls_ext {n : Nat} (h : ∀ k, k < n → ad' k = ad k) {ls : zL} (hv : zwl n ls = true) : zls ad' sp rh ls = zls ad sp rh ls := by
  refine List.map_congr_left fun q hm => ?_
  rw [zv_ext h (List.all_eq_true.mp hv q hm)]
theorem ze_ext {n : Nat} (h : ∀ k, k < n → ad' k = ad k) {x : zE} (hv : zwe n x = true) : ze tc ad' rh x = ze tc ad rh x := by
  cases x with
  | inl o => rfl
  | inr o => show Sum.inr (o.1, o.2.map _) = Sum.inr (o.1, o.2.map _); rw [show o.2.map (zv ad' zz rh) = o.2.map (zv ad zz rh) from zst_ext h hv]
theorem zw_get (w : List zE) (k : Nat) : (zw tc ad rh w)[k]? = (w[k]?).map (fun x => (ad k, ze tc ad rh x)) := by simp [zw, List.getElem?_mapIdx]
theorem zw_len (w : List zE) : (zw tc ad rh w).length = w.length := by simp [zw]
theorem zw_at {w : List zE} {k : Nat} {x : zE} (h : w[k]? = some x) : (zw tc ad rh w)[k]? = some (ad k, ze tc ad rh x) := by rw [zw_get, h]; rfl
theorem zw_ext {w : List zE} (h : ∀ k, k < w.length → ad' k = ad k) (hv : w.all (zwe w.length) = true) : zw tc ad' rh w = zw tc ad rh w := by
  refine List.ext_getElem? fun k => ?_
  rw [zw_get, zw_get]
  cases hk : w[k]? with
  | none => rfl
  | some x =>
    have hl : k < w.length := (List.getElem?_eq_some_iff.mp hk).1
    show some (ad' k, ze tc ad' rh x) = some (ad k, ze tc ad rh x)
    rw [h k hl, ze_ext h (List.all_eq_true.mp hv x (List.mem_of_getElem? hk))]
theorem zw_set (w : List zE) (k : Nat) (x : zE) : zw tc ad rh (w.set k x) = (zw tc ad rh w).set k (ad k, ze tc ad rh x) := by
  refine List.ext_getElem? fun j => ?_
  rw [zw_get, List.getElem?_set, List.getElem?_set, zw_len]
  by_cases hj : k = j
  · subst hj
    by_cases hl : k < w.length <;> simp [hl]
  · simp [hj, zw_get]
theorem zw_app (w : List zE) (x : zE) : zw tc ad rh (w ++ [x]) = zw tc ad rh w ++ [(ad w.length, ze tc ad rh x)] := by
  simp [zw, List.mapIdx_append]
theorem zget_mem {ls : zL} {k : Nat} {v : Value} (h : zget ls k = some v) : (k, v) ∈ ls := by
  induction ls with
  | nil => cases h
  | cons q r ih =>
    obtain ⟨a, b⟩ := q
    unfold zget at h
    cases hb : Nat.beq a k with
    | true =>
      rw [hb] at h
      have e1 : a = k := Nat.eq_of_beq_eq_true hb
      have e2 : b = v := Option.some.inj h
      rw [← e1, ← e2]
      exact List.mem_cons_self
    | false =>
      rw [hb] at h
      exact List.mem_cons_of_mem _ (ih h)
theorem zl_at {lsC : Array Slot} {nL : Nat} {ls : zL} (hl : lv_has lsC nL (zls ad sp rh ls)) {k : Nat} {v : Value} (h : zget ls k = some v) : lsC[k]? = some (.val (zv ad sp rh v)) :=
  hl.2.2 (k, zv ad sp rh v) (List.mem_map.mpr ⟨(k, v), zget_mem h, rfl⟩)
theorem zl_ix {ls : zL} {k : Nat} {v : Value} (h : zget ls k = some v) : ∃ j : Nat, (zls ad sp rh ls)[j]? = some (k, zv ad sp rh v) := by
  have hm : (k, zv ad sp rh v) ∈ zls ad sp rh ls := List.mem_map.mpr ⟨(k, v), zget_mem h, rfl⟩
  exact List.getElem?_of_mem hm
theorem zls_set {i : Nat} {v : Value} {ls : zL} : (i, zv ad sp rh v) :: (zls ad sp rh ls).filter (fun q => !(q.1 == i) && !(q.1 + 1 == i && q.2.category == 2)) = zls ad sp rh (zset i v ls) := by
  unfold zls zset
  rw [List.filter_map, List.map_cons]
  congr 2
  refine List.filter_congr fun q _ => ?_
  simp [Function.comp, zv_cat]
theorem zls_set2 {i : Nat} {v : Value} {ls : zL} : (i, zv ad sp rh v) :: (zls ad sp rh ls).filter (fun q => !(q.1 == i) && (!(q.1 == i + 1) && !(q.1 + 1 == i && q.2.category == 2))) = zls ad sp rh (zset2 i v ls) := by
  unfold zls zset2
  rw [List.filter_map, List.map_cons]
  congr 2
  refine List.filter_congr fun q _ => ?_
  simp [Function.comp, zv_cat]
theorem zwl_set {n i : Nat} {v : Value} {ls : zL} (h : zwl n ls = true) (hv : zwv n v = true) : zwl n (zset i v ls) = true := by
  refine List.all_eq_true.mpr fun q hq => ?_
  rcases List.mem_cons.mp hq with rfl | hq
  · exact hv
  · exact List.all_eq_true.mp h q (List.mem_filter.mp hq).1
theorem zwl_set2 {n i : Nat} {v : Value} {ls : zL} (h : zwl n ls = true) (hv : zwv n v = true) : zwl n (zset2 i v ls) = true := by
  refine List.all_eq_true.mpr fun q hq => ?_
  rcases List.mem_cons.mp hq with rfl | hq
  · exact hv
  · exact List.all_eq_true.mp h q (List.mem_filter.mp hq).1
theorem zwl_get {n : Nat} {ls : zL} {k : Nat} {v : Value} (h : zwl n ls = true) (hv : zget ls k = some v) : zwv n v = true := List.all_eq_true.mp h _ (zget_mem hv)
theorem zwv_le {n n' : Nat} (h : n ≤ n') {v : Value} (hv : zwv n v = true) : zwv n' v = true := by
  cases v with
  | ref k => exact decide_eq_true (Nat.lt_of_lt_of_le (of_decide_eq_true hv) h)
  | _ => rfl
theorem zst_le {n n' : Nat} (h : n ≤ n') {st : List Value} (hv : st.all (zwv n) = true) : st.all (zwv n') = true := List.all_eq_true.mpr fun v hm => zwv_le h (List.all_eq_true.mp hv v hm)
theorem zwl_le {n n' : Nat} (h : n ≤ n') {ls : zL} (hv : zwl n ls = true) : zwl n' ls = true := List.all_eq_true.mpr fun v hm => zwv_le h (List.all_eq_true.mp hv v hm)
theorem zwe_le {n n' : Nat} (h : n ≤ n') {x : zE} (hv : zwe n x = true) : zwe n' x = true := by
  cases x with
  | inl o => rfl
  | inr o => exact zst_le h hv
theorem zww_le {n n' : Nat} (h : n ≤ n') {w : List zE} (hv : w.all (zwe n) = true) : w.all (zwe n') = true := List.all_eq_true.mpr fun v hm => zwe_le h (List.all_eq_true.mp hv v hm)
theorem zwf_of {ls : zL} {st : List Value} {w : List zE} (h1 : w.all (zwe w.length) = true) (h2 : zwl w.length ls = true) (h3 : st.all (zwv w.length) = true) : zwf ls st w = true := by
  unfold zwf
  rw [h1, h2, h3]
  rfl
theorem zwf_to {ls : zL} {st : List Value} {w : List zE} (h : zwf ls st w = true) : w.all (zwe w.length) = true ∧ zwl w.length ls = true ∧ st.all (zwv w.length) = true := by
  unfold zwf at h
  rw [Bool.and_eq_true, Bool.and_eq_true] at h
  exact h
theorem zisI_to {v : Value} (h : zisI v = true) : ∃ x : Int32, zv ad sp rh v = .int x := by
  cases v <;> first | exact ⟨_, rfl⟩ | simp [zisI] at h
theorem zisL_to {v : Value} (h : zisL v = true) : ∃ x : Int64, v = .long x := by
  cases v <;> first | exact ⟨_, rfl⟩ | simp [zisL] at h
theorem zisR_to {v : Value} (h : zisR v = true) : zv ad sp rh v = .null ∨ ∃ x : Nat, zv ad sp rh v = .ref x := by
  cases v <;> first | exact Or.inl rfl | exact Or.inr ⟨_, rfl⟩ | simp [zisR] at h
theorem zload_to {f : Value → Bool} {k ip : Nat} {ls : zL} {st : List Value} {w : List zE} {q : zN} (h : zload f k ip ls st w = some q) : ∃ v, zget ls k = some v ∧ f v = true ∧ q = (ip + 1, ls, v :: st, w, 0, 0) := by
  unfold zload at h
  split at h
  · cases h
  · rename_i v hv
    split at h
    · rename_i hf
      exact ⟨v, hv, hf, (Option.some.inj h).symm⟩
    · cases h
theorem zstore_to {f : Value → Bool} {nL k ip : Nat} {ls : zL} {st : List Value} {w : List zE} {q : zN} (h : zstore f nL k ip ls st w = some q) : ∃ v r, st = v :: r ∧ f v = true ∧ k < nL ∧ q = (ip + 1, zset k v ls, r, w, 0, 0) := by
  unfold zstore at h
  split at h
  · rename_i v r
    split at h
    · rename_i hf
      rw [Bool.and_eq_true] at hf
      exact ⟨v, r, rfl, hf.1, Nat.le_of_ble_eq_true hf.2, (Option.some.inj h).symm⟩
    · cases h
  · cases h
theorem zstore2_to {nL k ip : Nat} {ls : zL} {st : List Value} {w : List zE} {q : zN} (h : zstore2 nL k ip ls st w = some q) : ∃ v r, st = v :: r ∧ zisL v = true ∧ k + 1 < nL ∧ q = (ip + 1, zset2 k v ls, r, w, 0, 0) := by
  unfold zstore2 at h
  split at h
  · rename_i v r
    split at h
    · rename_i hf
      rw [Bool.and_eq_true] at hf
      exact ⟨v, r, rfl, hf.1, Nat.le_of_ble_eq_true hf.2, (Option.some.inj h).symm⟩
    · cases h
  · cases h
theorem zobj_to {w : List zE} {a ci : Nat} {fs : List Value} (h : zobj w a ci = some fs) : w[a]? = some (.inr (ci, fs)) := by
  unfold zobj at h
  split at h
  · rename_i o ho
    obtain ⟨o1, o2⟩ := o
    split at h
    · rename_i hb
      have e1 : o1 = ci := Nat.eq_of_beq_eq_true hb
      have e2 : o2 = fs := Option.some.inj h
      rw [ho, e1, e2]
    · cases h
  · cases h
theorem zarr_to {w : List zE} {a ti : Nat} {o : Nat × List (Nat × Value)} (h : zarr w a ti = some o) : w[a]? = some (.inl (ti, o)) := by
  unfold zarr at h
  split at h
  · rename_i o9 ho
    obtain ⟨o1, o2⟩ := o9
    split at h
    · rename_i hb
      have e1 : o1 = ti := Nat.eq_of_beq_eq_true hb
      have e2 : o2 = o := Option.some.inj h
      rw [ho, e1, e2]
    · cases h
  · cases h
theorem zin_to {i : Int32} {n : Nat} (h : zin i n = true) : vp_in i n := by
  unfold zin at h
  rw [Bool.and_eq_true, decide_eq_true_eq, decide_eq_true_eq] at h
  exact vp_in_iff.mpr h
theorem zrd_int (rh : Nat → Int32) (l : List (Nat × Value)) (k : Nat) {x : Int32} (h : zrd (.int 0) l k = .int x) : zci id rh l k = x := by
  induction l with
  | nil => exact Value.int.inj h
  | cons q r ih =>
    unfold zrd at h
    unfold zci upd
    cases hb : Nat.beq q.1 k with
    | true =>
      rw [hb] at h
      rw [if_pos (Nat.eq_of_beq_eq_true hb).symm]
      show zint rh q.2 = x
      rw [show q.2 = .int x from h]
      rfl
    | false =>
      rw [hb] at h
      rw [if_neg (fun e9 => by rw [e9] at hb; simp at hb)]
      exact ih h
theorem zrd_long (l : List (Nat × Value)) (k : Nat) {x : Int64} (h : zrd (.long 0) l k = .long x) : zcj l k = x := by
  induction l with
  | nil => exact Value.long.inj h
  | cons q r ih =>
    unfold zrd at h
    unfold zcj vp_updL
    cases hb : Nat.beq q.1 k with
    | true =>
      rw [hb] at h
      rw [if_pos (Nat.eq_of_beq_eq_true hb).symm]
      show zlong q.2 = x
      rw [show q.2 = .long x from h]
      rfl
    | false =>
      rw [hb] at h
      rw [if_neg (fun e9 => by rw [e9] at hb; simp at hb)]
      exact ih h
def zcfok (cf : zF) (rh : Nat → Int32) : Prop := (∀ v, cf.1 = some v → rh 0 &&& 31 = v) ∧ (∀ (u : Nat) (q : Int × Int), cf.2.1[u]? = some q → q.1 ≤ (rh u).toInt ∧ (rh u).toInt ≤ q.2) ∧ rh 3 = ((rh 1).toUInt32 % 65536).toInt32 ∧ rh 4 = ((rh 2).toUInt32 % 65536).toInt32 ∧ rh 5 = rh 2 + 1 ∧ rh 6 = rh 0 &&& 31 ∧ ∀ (k : Nat) (v : Int32), cf.2.2.2[k]? = some (some v) → rh k = v
theorem ziv_to {cf : zF} (hc : zcfok cf rh) {v : Value} {q : Int × Int} (h : ziv cf v = some q) : ∃ x : Int32, zv ad sp rh v = .int x ∧ q.1 ≤ x.toInt ∧ x.toInt ≤ q.2 := by
  cases v with
  | int x => refine ⟨x, rfl, ?_⟩; cases h; exact ⟨Int.le_refl _, Int.le_refl _⟩
  | float u => exact ⟨rh u.toNat, rfl, hc.2.1 _ _ h⟩
  | _ => cases h
def zrel (c : ClassFile.Cond) (x y : Int32) : Prop := match c with
  | .eq => x = y
  | .ne => ¬ x = y
  | .lt => x < y
  | .ge => y ≤ x
  | .gt => y < x
  | .le => x ≤ y
theorem zcmpb_to {c : ClassFile.Cond} {l1 h1 l2 h2 : Int} {x y : Int32} (a1 : l1 ≤ x.toInt) (a2 : x.toInt ≤ h1) (b1 : l2 ≤ y.toInt) (b2 : y.toInt ≤ h2) {r : Bool} (h : zcmpb c l1 h1 l2 h2 = some r) : (r = true → zrel c x y) ∧ (r = false → ¬ zrel c x y) := by
  cases c <;> simp only [zcmpb] at h <;> split at h <;> simp only [Option.some.injEq, reduceCtorEq] at h <;> subst h <;> simp only [decide_eq_true_eq, decide_eq_false_iff_not, Bool.and_eq_true, Bool.or_eq_true, Bool.and_eq_false_iff, Bool.or_eq_false_iff] at * <;> refine ⟨fun h9 => ?_, fun h9 => ?_⟩ <;> first | exact absurd h9 (by decide) | (simp only [zrel, Int32.lt_iff_toInt_lt, Int32.le_iff_toInt_le, ← Int32.toInt_inj] at *; omega)
theorem zcmp_to {cf : zF} (hc : zcfok cf rh) {c : ClassFile.Cond} {a b : Value} {r : Bool} (h : zcmp cf c a b = some r) : ∃ x y : Int32, zv ad sp rh a = .int x ∧ zv ad sp rh b = .int y ∧ (r = true → zrel c x y) ∧ (r = false → ¬ zrel c x y) := by
  unfold zcmp at h
  split at h
  · rename_i p q hp hq
    obtain ⟨x, hx, x1, x2⟩ := ziv_to (ad := ad) (sp := sp) hc hp
    obtain ⟨y, hy, y1, y2⟩ := ziv_to (ad := ad) (sp := sp) hc hq
    exact ⟨x, y, hx, hy, zcmpb_to x1 x2 y1 y2 h⟩
  · cases h
theorem zbr_to {b : Option Bool} {ex : List Nat} {ip : Nat} {ls : zL} {st : List Value} {w : List zE} {q : zN} (h : zbr b ex ip ls st w = some q) : (∃ t, b = some true ∧ ex = [t] ∧ q = (t, ls, st, w, 0, 0)) ∨ (b = some false ∧ q = (ip + 1, ls, st, w, 0, 0)) := by
  unfold zbr at h
  split at h
  · exact Or.inl ⟨_, rfl, rfl, (Option.some.inj h).symm⟩
  · exact Or.inr ⟨rfl, (Option.some.inj h).symm⟩
  · cases h
theorem zfit_to {ty : FieldType} {v : Value} (h : zfit ty v = true) : narrow ty (zv ad zz rh v) = zv ad zz rh v ∧ fits ty (zv ad zz rh v) = true ∧ zv ad sp rh v = zv ad zz rh v ∧ zdbl v = false := by
  cases v with
  | int x =>
    simp only [zfit, Bool.and_eq_true, decide_eq_true_eq] at h
    exact ⟨h.1, h.2, rfl, rfl⟩
  | ref a => cases ty <;> first | exact ⟨rfl, rfl, rfl, rfl⟩ | simp [zfit] at h
  | null => cases ty <;> first | exact ⟨rfl, rfl, rfl, rfl⟩ | simp [zfit] at h
  | long x => cases ty <;> first | exact ⟨rfl, rfl, rfl, rfl⟩ | simp [zfit] at h
  | _ => simp [zfit] at h
theorem zv_nd {v : Value} (h : zdbl v = false) : zv ad sp rh v = zv ad sp' rh v := by
  cases v <;> first | rfl | simp [zdbl] at h
end ZB
