/-! pure rows: masks, rows of waiting shares -/
def bitm (t : Int32) : Int64 := (1 : Int64) <<< (t.toInt64 &&& 63)
def fhas (v : Int64) (t : Int32) : Int32 := if v &&& bitm t = 0 then 0 else 1
theorem lg_cmp_0 {a b : Int64} : lg_cmp a b = 0 ↔ a = b := lg_cmp_eq a b
def memB (bo : Nat → Int32) (b : Int32) (i : Nat) : List Nat := (List.range i).filter (fun s => decide (bo s = b))
theorem memB_0 {bo : Nat → Int32} {b : Int32} : memB bo b 0 = [] := rfl
theorem memB_in {bo : Nat → Int32} {b : Int32} {i : Nat} (h : bo i = b) : memB bo b (i + 1) = memB bo b i ++ [i] := by
  unfold memB
  rw [List.range_succ, List.filter_append]
  simp [h]
theorem memB_out {bo : Nat → Int32} {b : Int32} {i : Nat} (h : ¬ bo i = b) : memB bo b (i + 1) = memB bo b i := by
  unfold memB
  rw [List.range_succ, List.filter_append]
  simp [h]
theorem memB_le {bo : Nat → Int32} {b : Int32} (i : Nat) : (memB bo b i).length ≤ i := by
  unfold memB
  exact Nat.le_trans (List.length_filter_le _ _) (by simp)
def RowIs (row : Nat → Int32) (f : Nat) (q : List Nat) : Prop := ∀ i s, q[i]? = some s → row (f + i) = nI s
theorem row_nil {row : Nat → Int32} {f : Nat} : RowIs row f [] := fun i s h => by simp at h
theorem row_snoc {row : Nat → Int32} {q : List Nat} {x : Nat} (h : RowIs row 0 q) : RowIs (upd row q.length (nI x)) 0 (q ++ [x]) := by
  intro i s hi
  rw [Nat.zero_add]
  by_cases hq : i < q.length
  · rw [List.getElem?_append_left hq] at hi
    have := h i s hi
    rw [Nat.zero_add] at this
    rw [pk_un (by omega), this]
  · rw [List.getElem?_append_right (by omega)] at hi
    have hz : i - q.length < 1 := (List.getElem?_eq_some_iff.mp hi).1
    have e : i = q.length := by omega
    subst e
    simp at hi
    rw [pk_us, hi]
theorem row_tail {row : Nat → Int32} {f x : Nat} {q : List Nat} (h : RowIs row f (x :: q)) : row f = nI x ∧ RowIs row (f + 1) q := by
  refine ⟨h 0 x rfl, fun i s hi => ?_⟩
  have := h (i + 1) s (by simpa using hi)
  rw [show f + (i + 1) = f + 1 + i by omega] at this
  exact this
theorem row_cons {row : Nat → Int32} {f x : Nat} {q : List Nat} (h : RowIs row (f + 1) q) : RowIs (upd row f (nI x)) f (x :: q) := by
  intro i s hi
  cases i with
  | zero => simp at hi; rw [Nat.add_zero, pk_us, hi]
  | succ i =>
    simp at hi
    rw [pk_un (by omega), show f + (i + 1) = f + 1 + i by omega]
    exact h i s hi
