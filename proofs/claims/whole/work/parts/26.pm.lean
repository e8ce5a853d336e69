/-! pure rows for the reference: batches, failures, counting -/
theorem bat_leftM {i c : Nat} {lo reg bo : Nat → Int32} (hlo : ¬ lo i = 0) (h1 : IsBat i lo reg bo) (h2 : IsCnt i bo c) : IsBat (i + 1) lo reg (upd bo i (-1)) ∧ IsCnt (i + 1) (upd bo i (-1)) c := by
  have hk : ∀ t, t < i → upd bo i (-1) t = bo t := fun t ht => pk_un (by omega)
  refine ⟨fun s hs => ?_, ⟨fun s b hs hb e => ?_, fun b hb => ?_⟩⟩
  · rcases Nat.lt_or_ge s i with q | q
    · exact bat_keep (n := i) h1 s q
    · obtain rfl : s = i := by omega
      exact Or.inl ⟨hlo, pk_us⟩
  · rcases Nat.lt_or_ge s i with q | q
    · exact h2.1 s b q hb (by rw [← hk s q]; exact e)
    · obtain rfl : s = i := by omega
      rw [pk_us] at e
      exact absurd e (neg1_ne hb)
  · obtain ⟨s, q1, q2⟩ := h2.2 b hb
    exact ⟨s, by omega, by rw [hk s q1]; exact q2⟩
theorem bat_putM {i c b : Nat} {lo reg bo : Nat → Int32} (hi : i < 2 ^ 31) (hlo : lo i = 0) (h1 : IsBat i lo reg bo) (h2 : IsCnt i bo c) (h3 : c ≤ i) (hb : b ≤ c) (g1 : ∀ t, t < i → bo t = nI b → reg t &&& reg i = 0) (g2 : ∀ b', b' < b → ∃ t, t < i ∧ bo t = nI b' ∧ ¬ reg t &&& reg i = 0) :
    IsBat (i + 1) lo reg (upd bo i (nI b)) ∧ IsCnt (i + 1) (upd bo i (nI b)) (if b + 1 ≤ c then c else b + 1) := by
  have hk : ∀ t, t < i → upd bo i (nI b) t = bo t := fun t ht => pk_un (by omega)
  refine ⟨fun s hs => ?_, ⟨fun s b1 hs hb1 e => ?_, fun b1 hb1 => ?_⟩⟩
  · rcases Nat.lt_or_ge s i with q | q
    · exact bat_keep (n := i) h1 s q
    · obtain rfl : s = i := by omega
      refine Or.inr ⟨hlo, b, by omega, pk_us, fun t ht e => g1 t ht (by rw [← hk t ht]; exact e), fun b' hb' => ?_⟩
      obtain ⟨t, q1, q2, q3⟩ := g2 b' hb'
      exact ⟨t, q1, by rw [hk t q1]; exact q2, q3⟩
  · rcases Nat.lt_or_ge s i with q | q
    · have := h2.1 s b1 q hb1 (by rw [← hk s q]; exact e)
      split <;> omega
    · obtain rfl : s = i := by omega
      rw [pk_us] at e
      have := (nI_eq (by omega) hb1).mp e
      split <;> omega
  · by_cases q : b1 < c
    · obtain ⟨s, q1, q2⟩ := h2.2 b1 q
      exact ⟨s, by omega, by rw [hk s q1]; exact q2⟩
    · split at hb1
      · omega
      · have e : b1 = b := by omega
        subst e
        exact ⟨i, by omega, pk_us⟩
def FM (F : List (Nat × Nat)) (zw zy : Nat → Int32) : Prop := ∀ i q, F[i]? = some q → zw i = nI q.1 ∧ zy i = nI q.2
def turnM (v : Int64) (d : Int32) : Int64 := (v <<< (d.toInt64 &&& 63)) ||| (v.toUInt64 >>> ((64 - d).toInt64.toUInt64 &&& Int64.toUInt64 63)).toInt64
theorem turn7 (v : Int64) : turnM v 7 = rotl v 7 := by
  unfold turnM rotl
  rw [show ((64 - 7 : Int32).toInt64.toUInt64 &&& Int64.toUInt64 63) = ((-7 : Int32).toInt64.toUInt64 &&& Int64.toUInt64 63) by decide]
theorem turn5 (v : Int64) : turnM v 5 = rotl v 5 := by
  unfold turnM rotl
  rw [show ((64 - 5 : Int32).toInt64.toUInt64 &&& Int64.toUInt64 63) = ((-5 : Int32).toInt64.toUInt64 &&& Int64.toUInt64 63) by decide]
def lcF (zl : Nat → Int32) : Nat → Nat
  | 0 => 0
  | i + 1 => lcF zl i + (if zl i = 0 then 0 else 1)
theorem lcF_1 {zl : Nat → Int32} {i : Nat} (h : ¬ zl i = 0) : lcF zl (i + 1) = lcF zl i + 1 := by
  show lcF zl i + (if zl i = 0 then 0 else 1) = _
  rw [if_neg h]
theorem lcF_0 {zl : Nat → Int32} {i : Nat} (h : zl i = 0) : lcF zl (i + 1) = lcF zl i := by
  show lcF zl i + (if zl i = 0 then 0 else 1) = _
  rw [if_pos h]; rfl
theorem lcF_mono {zl : Nat → Int32} {i j : Nat} (h : i ≤ j) : lcF zl i ≤ lcF zl j := by
  induction h with
  | refl => exact Nat.le_refl _
  | step _ ih => simp only [lcF]; omega
theorem lcF_le {zl : Nat → Int32} : ∀ i, lcF zl i ≤ i := by
  intro i
  induction i with
  | zero => exact Nat.le_refl 0
  | succ i ih => simp only [lcF]; split <;> omega
/-- the live ones below w, counted -/
theorem lcF_pre {zl : Nat → Int32} : ∀ (L : List Nat) (a m : Nat), L.Pairwise (· < ·) → (∀ w, w ∈ L → a ≤ w) → a ≤ m → (∀ w, a ≤ w → w < m → (¬ zl w = 0 ↔ w ∈ L)) → lcF zl m = lcF zl a + (L.filter (fun w => decide (w < m))).length := by
  intro L a m hp hL ham
  induction ham with
  | refl =>
    intro _
    have : L.filter (fun w => decide (w < a)) = [] := by
      rw [List.filter_eq_nil_iff]
      intro w hw
      have := hL w hw
      simp; omega
    rw [this]; rfl
  | @step m hm ih =>
    intro hz
    have ih' := ih (fun w h1 h2 => hz w h1 (by omega))
    have hN : L.Nodup := hp.imp (fun h => Nat.ne_of_lt h)
    have key : (L.filter (fun w => decide (w < m + 1))).length = (L.filter (fun w => decide (w < m))).length + (if m ∈ L then 1 else 0) := by
      clear ih ih' hz hL
      induction L with
      | nil => rfl
      | cons x L ih2 =>
        obtain ⟨q1, q2⟩ := List.pairwise_cons.mp hp
        obtain ⟨r1, r2⟩ := List.nodup_cons.mp hN
        have ih3 := ih2 q2 r2
        by_cases hx : x = m
        · subst hx
          have e1 : ¬ x ∈ L := r1
          simp only [List.filter_cons]
          rw [if_neg e1] at ih3
          simp; omega
        · have e1 : (m ∈ x :: L) ↔ m ∈ L := by
            rw [List.mem_cons]
            exact ⟨fun z => z.elim (fun e => absurd e.symm hx) id, Or.inr⟩
          simp only [List.filter_cons, e1]
          by_cases hlt : x < m
          · simp [hlt, show x < m + 1 by omega]; omega
          · simp [hlt, show ¬ x < m + 1 by omega]; omega
    rw [key]
    by_cases q : zl m = 0
    · rw [lcF_0 q, ih', if_neg (fun z => (hz m hm (by omega)).mpr z q)]; rfl
    · rw [lcF_1 q, ih', if_pos ((hz m hm (by omega)).mp q)]; rfl
theorem lcF_len {zl : Nat → Int32} {L : List Nat} {W : Nat} (hp : L.Pairwise (· < ·)) (hW : ∀ w, w ∈ L → w < W) (hz : ∀ w, w < W → (¬ zl w = 0 ↔ w ∈ L)) : lcF zl W = L.length := by
  have h := lcF_pre (zl := zl) L 0 W hp (fun _ _ => Nat.zero_le _) (Nat.zero_le _) (fun w _ h => hz w h)
  rw [h, List.filter_eq_self.mpr (fun w hw => by simpa using hW w hw)]
  simp [lcF]
theorem lcF_at {zl : Nat → Int32} {L : List Nat} {W p w : Nat} (hp : L.Pairwise (· < ·)) (hW : ∀ w, w ∈ L → w < W) (hz : ∀ w, w < W → (¬ zl w = 0 ↔ w ∈ L)) (hw : L[p]? = some w) : lcF zl w = p := by
  have hwL : w ∈ L := List.mem_of_getElem? hw
  have hwW := hW w hwL
  have h := lcF_pre (zl := zl) L 0 w hp (fun _ _ => Nat.zero_le _) (Nat.zero_le _) (fun v _ h => hz v (by omega))
  rw [h]
  have key : ∀ (L : List Nat) (p : Nat), L.Pairwise (· < ·) → L[p]? = some w → (L.filter (fun v => decide (v < w))).length = p := by
    intro L
    induction L with
    | nil => intro p _ h; simp at h
    | cons x L ih =>
      intro p hp hw
      obtain ⟨q1, q2⟩ := List.pairwise_cons.mp hp
      cases p with
      | zero =>
        simp at hw
        subst hw
        rw [List.filter_cons, if_neg (by simp)]
        rw [List.filter_eq_nil_iff.mpr (fun v hv => by have := q1 v hv; simp; omega)]
        rfl
      | succ p =>
        simp at hw
        have hx : x < w := q1 w (List.mem_of_getElem? hw)
        rw [List.filter_cons, if_pos (by simpa using hx), List.length_cons, ih p q2 hw]
  rw [key L p hp hw]
  simp [lcF]
