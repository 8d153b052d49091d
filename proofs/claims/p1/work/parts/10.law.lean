/-! THE LAW'S OWN CODE -/
def zLC : List zI := zM_law.2.2.2.2.2.2.2.2.2
theorem zchunk {α : Type} (P : α → Bool) (n : Nat) : ∀ (k : Nat) (l : List α), (∀ i, i < k → ((l.drop (n * i)).take n).all P = true) → l.length ≤ n * k → l.all P = true := by
  intro k
  induction k with
  | zero =>
    intro l _ h
    rw [Nat.mul_zero] at h
    rw [List.length_eq_zero_iff.mp (Nat.le_zero.mp h)]
    rfl
  | succ k ih =>
    intro l h hl
    have h0 : (l.take n).all P = true := by
      have := h 0 (Nat.succ_pos k)
      rw [Nat.mul_zero, List.drop_zero] at this
      exact this
    have h1 : (l.drop n).all P = true := by
      refine ih (l.drop n) (fun i hi => ?_) ?_
      · have := h (i + 1) (Nat.succ_lt_succ hi)
        rw [Nat.mul_succ, Nat.add_comm, ← List.drop_drop] at this
        exact this
      · rw [List.length_drop]
        rw [Nat.mul_succ] at hl
        omega
    rw [← List.take_append_drop n l, List.all_append, h0, h1]
    rfl
def zLP (q : zI × Nat) : Bool := decide (q.1.1 = .nop) || zchk "MacrocosmLaw" "law" code zLC q.2 q.1
set_option maxRecDepth 100000 in
theorem zlc_0 : ((zLC.zipIdx.drop (40 * 0)).take 40).all zLP = true := by decide +kernel
set_option maxRecDepth 100000 in
theorem zlc_1 : ((zLC.zipIdx.drop (40 * 1)).take 40).all zLP = true := by decide +kernel
set_option maxRecDepth 100000 in
theorem zlc_2 : ((zLC.zipIdx.drop (40 * 2)).take 40).all zLP = true := by decide +kernel
set_option maxRecDepth 100000 in
theorem zlc_3 : ((zLC.zipIdx.drop (40 * 3)).take 40).all zLP = true := by decide +kernel
set_option maxRecDepth 100000 in
theorem zlc_4 : ((zLC.zipIdx.drop (40 * 4)).take 40).all zLP = true := by decide +kernel
set_option maxRecDepth 100000 in
theorem zlc_5 : ((zLC.zipIdx.drop (40 * 5)).take 40).all zLP = true := by decide +kernel
set_option maxRecDepth 100000 in
theorem zlc_6 : ((zLC.zipIdx.drop (40 * 6)).take 40).all zLP = true := by decide +kernel
set_option maxRecDepth 100000 in
theorem zlc_7 : ((zLC.zipIdx.drop (40 * 7)).take 40).all zLP = true := by decide +kernel
set_option maxRecDepth 100000 in
theorem zlc_8 : ((zLC.zipIdx.drop (40 * 8)).take 40).all zLP = true := by decide +kernel
set_option maxRecDepth 100000 in
theorem zlc_9 : ((zLC.zipIdx.drop (40 * 9)).take 40).all zLP = true := by decide +kernel
set_option maxRecDepth 100000 in
theorem zlc_10 : ((zLC.zipIdx.drop (40 * 10)).take 40).all zLP = true := by decide +kernel
set_option maxRecDepth 100000 in
theorem zlc_11 : ((zLC.zipIdx.drop (40 * 11)).take 40).all zLP = true := by decide +kernel
set_option maxRecDepth 100000 in
theorem zlc_12 : ((zLC.zipIdx.drop (40 * 12)).take 40).all zLP = true := by decide +kernel
theorem zlc_all : zLC.zipIdx.all zLP = true := by
  refine zchunk zLP 40 13 _ (fun i hi => ?_) (Nat.le_of_ble_eq_true (by decide +kernel))
  match i, hi with
  | 0, _ => exact zlc_0
  | 1, _ => exact zlc_1
  | 2, _ => exact zlc_2
  | 3, _ => exact zlc_3
  | 4, _ => exact zlc_4
  | 5, _ => exact zlc_5
  | 6, _ => exact zlc_6
  | 7, _ => exact zlc_7
  | 8, _ => exact zlc_8
  | 9, _ => exact zlc_9
  | 10, _ => exact zlc_10
  | 11, _ => exact zlc_11
  | 12, _ => exact zlc_12
set_option maxRecDepth 100000 in
theorem zlc_h : zhchk [] "MacrocosmLaw" zLC = true := by decide +kernel
set_option maxRecDepth 100000 in
theorem zlc_i : zikchk "MacrocosmLaw" zLC = true := by decide +kernel
