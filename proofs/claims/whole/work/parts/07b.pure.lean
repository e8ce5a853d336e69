theorem arrV_cg {cI : ClassId} {N : Nat} {f g : Nat → Value} (h : ∀ j, j < N → f j = g j) : arrV cI N f = arrV cI N g := by
  unfold arrV
  congr 1
  congr 1
  funext j
  exact h j.val j.isLt
theorem cg_w {D : va_G} {cl : List vw_C} {A : Nat → Prop} {ws : va_W} {H : Heap} {a q0 : Nat} {cA : ClassId} {x y : vp_A} (hP : va_P D cl ws H) (hD : va_D A ws) (ha : ws[q0]? = some (a, .inl (cA, x))) (he : vp_cell cA x = vp_cell cA y) : va_P D cl (ws.set q0 (a, .inl (cA, y))) H ∧ va_D A (ws.set q0 (a, .inl (cA, y))) := by
  refine ⟨hP.set hD ha ?_ (fun _ _ => rfl), hD.set ha⟩
  have h1 := hP q0 _ ha
  show H[a]? = some (vp_cell cA y)
  rw [← he]
  exact h1
theorem cg_i {D : va_G} {cl : List vw_C} {A : Nat → Prop} {ws : va_W} {H : Heap} {a n : Nat} {cA : ClassId} {f g : Nat → Int32} (hP : va_P D cl ws H) (hD : va_D A ws) (q0 : Nat) (ha : ws[q0]? = some (a, .inl (cA, n, .inl f))) (h : ∀ j, j < n → f j = g j) : va_P D cl (ws.set q0 (a, .inl (cA, n, .inl g))) H ∧ va_D A (ws.set q0 (a, .inl (cA, n, .inl g))) :=
  cg_w hP hD ha (by rw [vp_cell_i, vp_cell_i]; exact arrV_cg (fun j hj => by rw [h j hj]))
theorem cg_l {D : va_G} {cl : List vw_C} {A : Nat → Prop} {ws : va_W} {H : Heap} {a n : Nat} {cA : ClassId} {f g : Nat → Int64} (hP : va_P D cl ws H) (hD : va_D A ws) (q0 : Nat) (ha : ws[q0]? = some (a, .inl (cA, n, .inr (.inl f)))) (h : ∀ j, j < n → f j = g j) : va_P D cl (ws.set q0 (a, .inl (cA, n, .inr (.inl g)))) H ∧ va_D A (ws.set q0 (a, .inl (cA, n, .inr (.inl g)))) :=
  cg_w hP hD ha (by rw [vp_cell_l, vp_cell_l]; exact arrV_cg (fun j hj => by rw [h j hj]))
theorem fl_i {f : Nat → Int32} {i : Nat} {x : Int32} (h : ∀ j, j < i → f j = x) : ∀ j, j < i + 1 → upd f i x j = x := by
  intro j hj
  unfold upd
  split
  · rfl
  · exact h j (by omega)
theorem fl_l {f : Nat → Int64} {i : Nat} {x : Int64} (h : ∀ j, j < i → f j = x) : ∀ j, j < i + 1 → vp_updL f i x j = x := by
  intro j hj
  unfold vp_updL
  split
  · rfl
  · exact h j (by omega)
def rotl (x : Int64) (d : Int32) : Int64 := (x <<< (d.toInt64 &&& 63)) ||| (x.toUInt64 >>> ((-d).toInt64.toUInt64 &&& Int64.toUInt64 63)).toInt64
def mkst (a v : Int64) (k : Int32) : Int64 := (rotl a 7 ^^^ v) * 31 + k.toInt64
def jn1 (j r : Int64) : Int64 := rotl j 5 ^^^ r
/-- what k steps make of a share of value v -/
def stpF (v : Int64) : Nat → Int64
  | 0 => v
  | k + 1 => mkst (stpF v k) v (nI k)
def hasS (n : Nat) (x : Int32) : Int32 := if x < 0 ∨ nI n ≤ x then 0 else 1
theorem ne_omega {a b : Nat} (h : ¬ a = b) : a ≠ b := h
