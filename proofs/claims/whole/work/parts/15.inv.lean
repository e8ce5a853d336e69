/-! pure rows: what holds all along a run -/
def InvC (n : Nat) (st : Nat → Nat) (bo : Nat → Int32) (b : Nat) (L K Q : List Nat) (hd : Nat → Option Nat) (md sd : Nat → Nat) (dr : Nat → Int32) (F : List (Nat × Nat)) : Prop :=
  (L.Pairwise (· < ·) ∧ ∀ w, w ∈ L → w < 16) ∧ (K.Nodup ∧ ∀ s, s ∈ K → s < n ∧ sd s = 4) ∧ (∀ w, w ∈ L → ∀ s, hd w = some s → s < n ∧ sd s = 2 ∧ md w < st s) ∧ (∀ w w', w ∈ L → w' ∈ L → ∀ s, hd w = some s → hd w' = some s → w = w') ∧ (Q.Pairwise (· < ·) ∧ ∀ s, s ∈ Q ↔ s < n ∧ sd s = 1) ∧ (F.Nodup ∧ ∀ q, q ∈ F → q.1 < 16 ∧ q.2 < n) ∧ (∀ s, s < n → sd s = 3 → ¬ dr s = -1) ∧ (∀ s, s < n → (sd s = 0 ↔ ¬ bo s = nI b)) ∧ (∀ s, s < n → ∀ b', b' < b → bo s = nI b' → ¬ dr s = -1)
theorem inv_take {n : Nat} {st : Nat → Nat} {bo : Nat → Int32} {b : Nat} {L K Q K' Q' : List Nat} {hd : Nat → Option Nat} {md sd : Nat → Nat} {dr : Nat → Int32} {F : List (Nat × Nat)} {w s : Nat} (h : InvC n st bo b L K Q hd md sd dr F) (hst : ∀ s, s < n → 0 < st s) (hw : hd w = none) (hs : s < n) (h4 : sd s = 4 ∨ sd s = 1) (hK : K'.Nodup ∧ ∀ t, t ∈ K' → t ∈ K ∧ t ≠ s) (hQ : Q'.Pairwise (· < ·) ∧ ∀ t, t ∈ Q' ↔ t ∈ Q ∧ t ≠ s) : InvC n st bo b L K' Q' (fu hd w (some s)) (fu md w 0) (fu sd s 2) dr F := by
  obtain ⟨⟨a1, a2⟩, ⟨b1, b2⟩, c1, d1, ⟨e1, e2⟩, f1, g1, i1, j1⟩ := h
  have hold : ∀ v, v ∈ L → ∀ t, hd v = some t → t ≠ s := by
    intro v hv t ht e
    subst e
    have := (c1 v hv t ht).2.1
    omega
  refine ⟨⟨a1, a2⟩, ⟨hK.1, fun t ht => ?_⟩, fun v hv t ht => ?_, fun v v' hv hv' t ht ht' => ?_, ⟨hQ.1, fun t => ?_⟩, f1, fun t ht h3 => ?_, fun t ht => ?_, j1⟩
  · obtain ⟨q1, q2⟩ := hK.2 t ht
    rw [fu_n q2]
    exact b2 t q1
  · by_cases q : v = w
    · subst q
      rw [fu_s] at ht
      cases ht
      rw [fu_s, fu_s]
      exact ⟨hs, rfl, hst s hs⟩
    · rw [fu_n q] at ht ⊢
      rw [fu_n (hold v hv t ht)]
      exact c1 v hv t ht
  · by_cases q : v = w <;> by_cases q' : v' = w
    · rw [q, q']
    · rw [q, fu_s] at ht
      cases ht
      rw [fu_n q'] at ht'
      exact absurd rfl (hold v' hv' s ht')
    · rw [q', fu_s] at ht'
      cases ht'
      rw [fu_n q] at ht
      exact absurd rfl (hold v hv s ht)
    · rw [fu_n q] at ht
      rw [fu_n q'] at ht'
      exact d1 v v' hv hv' t ht ht'
  · rw [hQ.2 t, e2 t]
    by_cases q : t = s
    · subst q
      rw [fu_s]
      constructor
      · intro z; exact absurd rfl z.2
      · intro z; exact absurd z.2 (by decide)
    · rw [fu_n q]
      exact ⟨fun z => z.1, fun z => ⟨z, q⟩⟩
  · by_cases q : t = s
    · subst q
      rw [fu_s] at h3
      exact absurd h3 (by decide)
    · rw [fu_n q] at h3
      exact g1 t ht h3
  · by_cases q : t = s
    · subst q
      rw [fu_s]
      have := i1 t ht
      constructor
      · intro z; exact absurd z (by decide)
      · intro z
        have := this.mpr z
        omega
    · rw [fu_n q]
      exact i1 t ht
theorem inv_step {n : Nat} {st : Nat → Nat} {bo : Nat → Int32} {b : Nat} {L K Q : List Nat} {hd : Nat → Option Nat} {md sd : Nat → Nat} {dr : Nat → Int32} {F : List (Nat × Nat)} {w s : Nat} (h : InvC n st bo b L K Q hd md sd dr F) (hh : hd w = some s) (hm : md w + 1 < st s) : InvC n st bo b L K Q hd (fu md w (md w + 1)) sd dr F := by
  obtain ⟨a1, b1, c1, d1, e1, f1, g1, i1, j1⟩ := h
  refine ⟨a1, b1, fun v hv t ht => ?_, d1, e1, f1, g1, i1, j1⟩
  obtain ⟨q1, q2, q3⟩ := c1 v hv t ht
  refine ⟨q1, q2, ?_⟩
  by_cases q : v = w
  · subst q
    rw [fu_s]
    rw [hh] at ht
    cases ht
    exact hm
  · rw [fu_n q]; exact q3
theorem inv_last {n : Nat} {st : Nat → Nat} {bo : Nat → Int32} {b : Nat} {L K Q : List Nat} {hd : Nat → Option Nat} {md sd : Nat → Nat} {dr : Nat → Int32} {F : List (Nat × Nat)} {w s : Nat} (h : InvC n st bo b L K Q hd md sd dr F) (hw : w ∈ L) (hh : hd w = some s) : InvC n st bo b L K Q (fu hd w none) (fu md w (md w + 1)) (fu sd s 3) (upd dr s (nI w)) F := by
  obtain ⟨⟨a1, a2⟩, ⟨b1, b2⟩, c1, d1, ⟨e1, e2⟩, f1, g1, i1, j1⟩ := h
  have hw16 := a2 w hw
  have hs := c1 w hw s hh
  have hne : ¬ nI w = -1 := fun e => neg1_ne (b := w) (by omega) e.symm
  have hold : ∀ v, v ∈ L → v ≠ w → ∀ t, hd v = some t → t ≠ s := fun v hv hvw t ht e => hvw (d1 v w hv hw s (by rw [← e]; exact ht) hh)
  refine ⟨⟨a1, a2⟩, ⟨b1, fun t ht => ?_⟩, fun v hv t ht => ?_, fun v v' hv hv' t ht ht' => ?_, ⟨e1, fun t => ?_⟩, f1, fun t ht h3 => ?_, fun t ht => ?_, fun t ht b' hb' e => ?_⟩
  · have := b2 t ht
    rw [fu_n (fun e => by subst e; omega)]
    exact this
  · by_cases q : v = w
    · subst q
      rw [fu_s] at ht
      cases ht
    · rw [fu_n q] at ht ⊢
      rw [fu_n (hold v hv q t ht)]
      exact c1 v hv t ht
  · by_cases q : v = w
    · subst q; rw [fu_s] at ht; cases ht
    · by_cases q' : v' = w
      · subst q'; rw [fu_s] at ht'; cases ht'
      · rw [fu_n q] at ht
        rw [fu_n q'] at ht'
        exact d1 v v' hv hv' t ht ht'
  · rw [e2 t]
    by_cases q : t = s
    · subst q
      rw [fu_s]
      constructor
      · intro z; omega
      · intro z; exact absurd z.2 (by decide)
    · rw [fu_n q]
  · by_cases q : t = s
    · subst q; rw [pk_us]; exact hne
    · rw [fu_n q] at h3
      rw [pk_un q]
      exact g1 t ht h3
  · by_cases q : t = s
    · subst q
      rw [fu_s, ← i1 t ht]
      constructor
      · intro z; exact absurd z (by decide)
      · intro z; omega
    · rw [fu_n q]; exact i1 t ht
  · by_cases q : t = s
    · subst q; rw [pk_us]; exact hne
    · rw [pk_un q]; exact j1 t ht b' hb' e
theorem mem_erIdx {L : List Nat} {p w v : Nat} (hs : L.Pairwise (· < ·)) (hp : L[p]? = some w) : v ∈ L.eraseIdx p ↔ v ∈ L ∧ v ≠ w := by
  have hlt : p < L.length := (List.getElem?_eq_some_iff.mp hp).1
  rw [List.mem_eraseIdx_iff_getElem?]
  constructor
  · rintro ⟨i, hi, hv⟩
    refine ⟨List.mem_of_getElem? hv, fun e => ?_⟩
    subst e
    obtain ⟨h1, h2⟩ := List.getElem?_eq_some_iff.mp hp
    obtain ⟨h3, h4⟩ := List.getElem?_eq_some_iff.mp hv
    have hpw := List.pairwise_iff_getElem.mp hs
    rcases Nat.lt_trichotomy i p with q | q | q
    · have := hpw i p h3 h1 q; omega
    · exact hi q
    · have := hpw p i h1 h3 q; omega
  · rintro ⟨hv, hne⟩
    obtain ⟨i, hi⟩ := List.getElem?_of_mem hv
    exact ⟨i, fun e => hne (by subst e; rw [hp] at hi; exact (Option.some.inj hi).symm), hi⟩
theorem inv_fail {n : Nat} {st : Nat → Nat} {bo : Nat → Int32} {b : Nat} {L K Q : List Nat} {hd : Nat → Option Nat} {md sd : Nat → Nat} {dr : Nat → Int32} {F : List (Nat × Nat)} {w s p : Nat} (h : InvC n st bo b L K Q hd md sd dr F) (hp : L[p]? = some w) (hh : hd w = some s) : InvC n st bo b (L.eraseIdx p) (s :: K) Q hd md (fu sd s 4) dr (F.erase (w, s)) := by
  obtain ⟨⟨a1, a2⟩, ⟨b1, b2⟩, c1, d1, ⟨e1, e2⟩, ⟨f1, f2⟩, g1, i1, j1⟩ := h
  have hw : w ∈ L := List.mem_of_getElem? hp
  have hs := c1 w hw s hh
  have hme : ∀ v, v ∈ L.eraseIdx p → v ∈ L ∧ v ≠ w := fun v hv => (mem_erIdx a1 hp).mp hv
  have hold : ∀ v, v ∈ L → v ≠ w → ∀ t, hd v = some t → t ≠ s := fun v hv hvw t ht e => hvw (d1 v w hv hw s (by rw [← e]; exact ht) hh)
  refine ⟨⟨List.Pairwise.sublist (List.eraseIdx_sublist _ _) a1, fun v hv => a2 v (hme v hv).1⟩, ⟨List.nodup_cons.mpr ⟨fun z => by have := (b2 s z).2; omega, b1⟩, fun t ht => ?_⟩, fun v hv t ht => ?_, fun v v' hv hv' t ht ht' => d1 v v' (hme v hv).1 (hme v' hv').1 t ht ht', ⟨e1, fun t => ?_⟩, ⟨List.Pairwise.sublist List.erase_sublist f1, fun q hq => f2 q (List.mem_of_mem_erase hq)⟩, fun t ht h3 => ?_, fun t ht => ?_, j1⟩
  · rcases List.mem_cons.mp ht with q | q
    · subst q; rw [fu_s]; exact ⟨hs.1, rfl⟩
    · have := b2 t q
      rw [fu_n (fun e => by subst e; omega)]
      exact this
  · have hv2 := hme v hv
    rw [fu_n (hold v hv2.1 hv2.2 t ht)]
    exact c1 v hv2.1 t ht
  · rw [e2 t]
    by_cases q : t = s
    · subst q
      rw [fu_s]
      constructor
      · intro z; omega
      · intro z; exact absurd z.2 (by decide)
    · rw [fu_n q]
  · by_cases q : t = s
    · subst q; rw [fu_s] at h3; exact absurd h3 (by decide)
    · rw [fu_n q] at h3; exact g1 t ht h3
  · by_cases q : t = s
    · subst q
      rw [fu_s, ← i1 t ht]
      constructor
      · intro z; exact absurd z (by decide)
      · intro z; omega
    · rw [fu_n q]; exact i1 t ht
