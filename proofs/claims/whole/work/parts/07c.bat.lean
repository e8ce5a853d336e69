/-! pure rows: batches -/
theorem neg1_ne {b : Nat} (h : b < 2 ^ 31) : ¬ (-1 : Int32) = nI b := fun e => by
  have h1 := congrArg Int32.toInt e
  rw [nI_toInt h] at h1
  have h2 : (-1 : Int32).toInt = -1 := by decide
  rw [h2] at h1
  omega
theorem i_oa (a b x : Int32) : (a ||| b) &&& x = 0 ↔ a &&& x = 0 ∧ b &&& x = 0 := by
  have e : (a ||| b) &&& x = (a &&& x) ||| (b &&& x) := by
    apply Int32.toBitVec_inj.mp
    simp only [Int32.toBitVec_and, Int32.toBitVec_or]
    ext i
    simp only [BitVec.getElem_and, BitVec.getElem_or]
    cases a.toBitVec[i] <;> cases b.toBitVec[i] <;> cases x.toBitVec[i] <;> rfl
  rw [e, Int32.or_eq_zero_iff]
def IsBat (n : Nat) (lo reg bo : Nat → Int32) : Prop := ∀ s, s < n → (¬ lo s = 0 ∧ bo s = -1) ∨ (lo s = 0 ∧ ∃ b, b ≤ s ∧ bo s = nI b ∧ (∀ t, t < s → bo t = nI b → reg t &&& reg s = 0) ∧ ∀ b', b' < b → ∃ t, t < s ∧ bo t = nI b' ∧ ¬ reg t &&& reg s = 0)
def IsCnt (n : Nat) (bo : Nat → Int32) (c : Nat) : Prop := (∀ s b, s < n → b < 2 ^ 31 → bo s = nI b → b < c) ∧ (∀ b, b < c → ∃ s, s < n ∧ bo s = nI b)
def RgOk (i c : Nat) (bo reg rg : Nat → Int32) : Prop := ∀ b, b < c → ∀ x, (rg b &&& x = 0 ↔ ∀ t, t < i → bo t = nI b → reg t &&& x = 0)
theorem pl_ex (rg : Nat → Int32) (t : Int32) : ∀ c : Nat, (∃ b, b < c ∧ (∀ j, j < b → ¬ rg j &&& t = 0) ∧ rg b &&& t = 0) ∨ (∀ j, j < c → ¬ rg j &&& t = 0) := by
  intro c
  induction c with
  | zero => exact Or.inr (fun j h => absurd h (Nat.not_lt_zero j))
  | succ c ih =>
    rcases ih with ⟨b, h1, h2, h3⟩ | h
    · exact Or.inl ⟨b, by omega, h2, h3⟩
    · by_cases hc : rg c &&& t = 0
      · exact Or.inl ⟨c, by omega, h, hc⟩
      · refine Or.inr (fun j hj => ?_)
        rcases Nat.lt_or_ge j c with q | q
        · exact h j q
        · have e : j = c := by omega
          rw [e]; exact hc
theorem bat_keep {i n : Nat} {lo reg bo : Nat → Int32} {x : Int32} (h : IsBat i lo reg bo) : ∀ s, s < i → (¬ lo s = 0 ∧ upd bo i x s = -1) ∨ (lo s = 0 ∧ ∃ b, b ≤ s ∧ upd bo i x s = nI b ∧ (∀ t, t < s → upd bo i x t = nI b → reg t &&& reg s = 0) ∧ ∀ b', b' < b → ∃ t, t < s ∧ upd bo i x t = nI b' ∧ ¬ reg t &&& reg s = 0) := by
  intro s hs
  have hk : ∀ t, t < i → upd bo i x t = bo t := fun t ht => pk_un (by omega)
  rw [hk s hs]
  rcases h s hs with h1 | ⟨h1, b, h2, h3, h4, h5⟩
  · exact Or.inl h1
  · refine Or.inr ⟨h1, b, h2, h3, fun t ht e => h4 t ht (by rw [← hk t (by omega)]; exact e), fun b' hb' => ?_⟩
    obtain ⟨t, q1, q2, q3⟩ := h5 b' hb'
    exact ⟨t, q1, by rw [hk t (by omega)]; exact q2, q3⟩
theorem bat_left {i c : Nat} {lo reg bo rg : Nat → Int32} (hi : i < 2 ^ 31) (hlo : ¬ lo i = 0) (h1 : IsBat i lo reg bo) (h2 : IsCnt i bo c) (h3 : c ≤ i) (h4 : RgOk i c bo reg rg) :
    IsBat (i + 1) lo reg (upd bo i (-1)) ∧ IsCnt (i + 1) (upd bo i (-1)) c ∧ RgOk (i + 1) c (upd bo i (-1)) reg rg := by
  have hk : ∀ t, t < i → upd bo i (-1) t = bo t := fun t ht => pk_un (by omega)
  refine ⟨fun s hs => ?_, ⟨fun s b hs hb e => ?_, fun b hb => ?_⟩, fun b hb x => ?_⟩
  · rcases Nat.lt_or_ge s i with q | q
    · exact bat_keep (n := i) h1 s q
    · obtain rfl : s = i := by omega
      exact Or.inl ⟨hlo, pk_us⟩
  · rcases Nat.lt_or_ge s i with q | q
    · exact h2.1 s b q hb (by rw [← hk s q]; exact e)
    · obtain rfl : s = i := by omega
      rw [pk_us] at e
      exact absurd e (neg1_ne hb)
  · obtain ⟨s, q1, q2⟩ := h2.2 b hb
    exact ⟨s, by omega, by rw [hk s q1]; exact q2⟩
  · rw [h4 b hb x]
    constructor
    · intro h t ht e
      rcases Nat.lt_or_ge t i with q | q
      · exact h t q (by rw [← hk t q]; exact e)
      · obtain rfl : t = i := by omega
        rw [pk_us] at e
        exact absurd e (neg1_ne (by omega))
    · intro h t ht e
      exact h t (by omega) (by rw [hk t ht]; exact e)
theorem bat_old {i c b : Nat} {lo reg bo rg : Nat → Int32} (hi : i < 2 ^ 31) (hlo : lo i = 0) (h1 : IsBat i lo reg bo) (h2 : IsCnt i bo c) (h3 : c ≤ i) (h4 : RgOk i c bo reg rg) (hb : b < c) (g1 : ∀ j, j < b → ¬ rg j &&& reg i = 0) (g2 : rg b &&& reg i = 0) :
    IsBat (i + 1) lo reg (upd bo i (nI b)) ∧ IsCnt (i + 1) (upd bo i (nI b)) c ∧ RgOk (i + 1) c (upd bo i (nI b)) reg (upd rg b (rg b ||| reg i)) := by
  have hk : ∀ t, t < i → upd bo i (nI b) t = bo t := fun t ht => pk_un (by omega)
  refine ⟨fun s hs => ?_, ⟨fun s b1 hs hb1 e => ?_, fun b1 hb1 => ?_⟩, fun b1 hb1 x => ?_⟩
  · rcases Nat.lt_or_ge s i with q | q
    · exact bat_keep (n := i) h1 s q
    · obtain rfl : s = i := by omega
      refine Or.inr ⟨hlo, b, by omega, pk_us, fun t ht e => (h4 b hb _).mp g2 t ht (by rw [← hk t ht]; exact e), fun b' hb' => ?_⟩
      have hne := g1 b' hb'
      rw [h4 b' (by omega)] at hne
      obtain ⟨t, ht⟩ := Classical.not_forall.mp hne
      obtain ⟨ht1, ht2⟩ := Classical.not_imp.mp ht
      obtain ⟨ht3, ht4⟩ := Classical.not_imp.mp ht2
      exact ⟨t, ht1, by rw [hk t ht1]; exact ht3, ht4⟩
  · rcases Nat.lt_or_ge s i with q | q
    · exact h2.1 s b1 q hb1 (by rw [← hk s q]; exact e)
    · obtain rfl : s = i := by omega
      rw [pk_us] at e
      have := (nI_eq (by omega) hb1).mp e
      omega
  · obtain ⟨s, q1, q2⟩ := h2.2 b1 hb1
    exact ⟨s, by omega, by rw [hk s q1]; exact q2⟩
  · by_cases hbb : b1 = b
    · subst hbb
      rw [pk_us, i_oa, h4 b1 hb x]
      constructor
      · intro h t ht e
        rcases Nat.lt_or_ge t i with q | q
        · exact h.1 t q (by rw [← hk t q]; exact e)
        · obtain rfl : t = i := by omega
          exact h.2
      · intro h
        exact ⟨fun t ht e => h t (by omega) (by rw [hk t ht]; exact e), h i (by omega) pk_us⟩
    · rw [pk_un hbb, h4 b1 hb1 x]
      constructor
      · intro h t ht e
        rcases Nat.lt_or_ge t i with q | q
        · exact h t q (by rw [← hk t q]; exact e)
        · obtain rfl : t = i := by omega
          rw [pk_us] at e
          exact absurd ((nI_eq (by omega) (by omega)).mp e).symm hbb
      · intro h t ht e
        exact h t (by omega) (by rw [hk t ht]; exact e)
theorem bat_new {i c : Nat} {lo reg bo rg : Nat → Int32} (hi : i < 2 ^ 31) (hlo : lo i = 0) (h1 : IsBat i lo reg bo) (h2 : IsCnt i bo c) (h3 : c ≤ i) (h4 : RgOk i c bo reg rg) (g1 : ∀ j, j < c → ¬ rg j &&& reg i = 0) :
    IsBat (i + 1) lo reg (upd bo i (nI c)) ∧ IsCnt (i + 1) (upd bo i (nI c)) (c + 1) ∧ RgOk (i + 1) (c + 1) (upd bo i (nI c)) reg (upd rg c (reg i)) := by
  have hk : ∀ t, t < i → upd bo i (nI c) t = bo t := fun t ht => pk_un (by omega)
  have hno : ∀ t, t < i → ¬ bo t = nI c := fun t ht e => Nat.lt_irrefl c (h2.1 t c ht (by omega) e)
  refine ⟨fun s hs => ?_, ⟨fun s b1 hs hb1 e => ?_, fun b1 hb1 => ?_⟩, fun b1 hb1 x => ?_⟩
  · rcases Nat.lt_or_ge s i with q | q
    · exact bat_keep (n := i) h1 s q
    · obtain rfl : s = i := by omega
      refine Or.inr ⟨hlo, c, by omega, pk_us, fun t ht e => absurd (by rw [← hk t ht]; exact e) (hno t ht), fun b' hb' => ?_⟩
      have hne := g1 b' hb'
      rw [h4 b' (by omega)] at hne
      obtain ⟨t, ht⟩ := Classical.not_forall.mp hne
      obtain ⟨ht1, ht2⟩ := Classical.not_imp.mp ht
      obtain ⟨ht3, ht4⟩ := Classical.not_imp.mp ht2
      exact ⟨t, ht1, by rw [hk t ht1]; exact ht3, ht4⟩
  · rcases Nat.lt_or_ge s i with q | q
    · have := h2.1 s b1 q hb1 (by rw [← hk s q]; exact e)
      omega
    · obtain rfl : s = i := by omega
      rw [pk_us] at e
      have := (nI_eq (by omega) hb1).mp e
      omega
  · rcases Nat.lt_or_ge b1 c with q | q
    · obtain ⟨s, q1, q2⟩ := h2.2 b1 q
      exact ⟨s, by omega, by rw [hk s q1]; exact q2⟩
    · obtain rfl : b1 = c := by omega
      exact ⟨i, by omega, pk_us⟩
  · by_cases hbb : b1 = c
    · subst hbb
      rw [pk_us]
      constructor
      · intro h t ht e
        rcases Nat.lt_or_ge t i with q | q
        · exact absurd (by rw [← hk t q]; exact e) (hno t q)
        · obtain rfl : t = i := by omega
          exact h
      · intro h
        exact h i (by omega) pk_us
    · rw [pk_un hbb, h4 b1 (by omega) x]
      constructor
      · intro h t ht e
        rcases Nat.lt_or_ge t i with q | q
        · exact h t q (by rw [← hk t q]; exact e)
        · obtain rfl : t = i := by omega
          rw [pk_us] at e
          exact absurd ((nI_eq (by omega) (by omega)).mp e).symm hbb
      · intro h t ht e
        exact h t (by omega) (by rw [hk t ht]; exact e)
theorem bat_0 {lo reg bo : Nat → Int32} : IsBat 0 lo reg bo := fun s h => absurd h (Nat.not_lt_zero s)
theorem cnt_0 {bo : Nat → Int32} : IsCnt 0 bo 0 := ⟨fun s _ h => absurd h (Nat.not_lt_zero s), fun b h => absurd h (Nat.not_lt_zero b)⟩
theorem rg_0 {bo reg rg : Nat → Int32} {i : Nat} : RgOk i 0 bo reg rg := fun b h => absurd h (Nat.not_lt_zero b)
/-- the batches are what the regions and who is left out make them -/
theorem bat_uniq {n : Nat} {lo reg lo' reg' bo bo' : Nat → Int32} (hn : n < 2 ^ 31) (hl : ∀ s, s < n → (lo s = 0 ↔ lo' s = 0)) (hg : ∀ s, s < n → reg s = reg' s) (h : IsBat n lo reg bo) (h' : IsBat n lo' reg' bo') : ∀ s, s < n → bo s = bo' s := by
  intro s
  induction s using Nat.strongRecOn with
  | _ s ih =>
    intro hs
    rcases h s hs with ⟨q1, q2⟩ | ⟨q1, b, q2, q3, q4, q5⟩ <;> rcases h' s hs with ⟨r1, r2⟩ | ⟨r1, b', r2, r3, r4, r5⟩
    · rw [q2, r2]
    · exact absurd ((hl s hs).mpr r1) q1
    · exact absurd ((hl s hs).mp q1) r1
    · have e : b = b' := by
        rcases Nat.lt_trichotomy b b' with z | z | z
        · obtain ⟨t, t1, t2, t3⟩ := r5 b z
          rw [← hg t (by omega), ← hg s hs] at t3
          exact absurd (q4 t t1 (by rw [ih t t1 (by omega)]; exact t2)) t3
        · exact z
        · obtain ⟨t, t1, t2, t3⟩ := q5 b' z
          rw [hg t (by omega), hg s hs] at t3
          exact absurd (r4 t t1 (by rw [← ih t t1 (by omega)]; exact t2)) t3
      rw [q3, r3, e]
theorem cnt_uniq {n c c' : Nat} {bo bo' : Nat → Int32} (hc : c < 2 ^ 31) (hc' : c' < 2 ^ 31) (he : ∀ s, s < n → bo s = bo' s) (h : IsCnt n bo c) (h' : IsCnt n bo' c') : c = c' := by
  rcases Nat.lt_trichotomy c c' with z | z | z
  · obtain ⟨s, s1, s2⟩ := h'.2 c z
    exact absurd (h.1 s c s1 hc (by rw [he s s1]; exact s2)) (Nat.lt_irrefl c)
  · exact z
  · obtain ⟨s, s1, s2⟩ := h.2 c' z
    exact absurd (h'.1 s c' s1 hc' (by rw [← he s s1]; exact s2)) (Nat.lt_irrefl c')
