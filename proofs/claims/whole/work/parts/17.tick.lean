/-! pure rows: what a tick is, case by case -/
theorem gd_w {L : List Nat} {p w : Nat} (h : L[p]? = some w) : L.getD p 0 = w := by rw [List.getD_eq_getElem?_getD, h]; rfl
section TK
variable {st : Nat → Nat} {L K Q : List Nat} {hd : Nat → Option Nat} {md sd : Nat → Nat} {bg dr : Nat → Int32} {F : List (Nat × Nat)} {x : Int64} {tk w s : Nat} {sp fd ba : Int32}
theorem tk_idle (hw : L[pickN (nxtX x) L.length]? = some w) (hh : hd w = none) : tickS st (L, [], [], hd, md, sd, bg, dr, F, x, tk, sp, fd, ba) = (L, [], [], hd, md, sd, bg, dr, F, nxtX x, tk + 1, sp, fd, ba) := by
  simp only [tickS, actS, gd_w hw, hh]
theorem tk_K (hw : L[pickN (nxtX x) L.length]? = some w) (hh : hd w = none) : tickS st (L, s :: K, Q, hd, md, sd, bg, dr, F, x, tk, sp, fd, ba) = (L, K, Q, fu hd w (some s), fu md w 0, fu sd s 2, upd bg s (bg s + 1), dr, F, nxtX x, tk + 1, sp, fd, ba + 1) := by
  simp only [tickS, actS, gd_w hw, hh, tkS]
theorem tk_Q (hw : L[pickN (nxtX x) L.length]? = some w) (hh : hd w = none) : tickS st (L, [], s :: Q, hd, md, sd, bg, dr, F, x, tk, sp, fd, ba) = (L, [], Q, fu hd w (some s), fu md w 0, fu sd s 2, upd bg s (bg s + 1), dr, F, nxtX x, tk + 1, sp, fd, ba + 1) := by
  simp only [tickS, actS, gd_w hw, hh, tkS]
theorem tk_step (hw : L[pickN (nxtX x) L.length]? = some w) (hh : hd w = some s) (hm : ¬ md w + 1 = st s) : tickS st (L, K, Q, hd, md, sd, bg, dr, F, x, tk, sp, fd, ba) = (L, K, Q, hd, fu md w (md w + 1), sd, bg, dr, F, nxtX x, tk + 1, sp + 1, fd, ba) := by
  simp only [tickS, actS, gd_w hw, hh, if_neg hm]
theorem tk_last (hw : L[pickN (nxtX x) L.length]? = some w) (hh : hd w = some s) (hm : md w + 1 = st s) (hF : ¬ (w, s) ∈ F) : tickS st (L, K, Q, hd, md, sd, bg, dr, F, x, tk, sp, fd, ba) = (L, K, Q, fu hd w none, fu md w (md w + 1), fu sd s 3, bg, upd dr s (nI w), F, nxtX x, tk + 1, sp + 1, fd, ba) := by
  simp only [tickS, actS, gd_w hw, hh, if_pos hm, if_neg hF]
theorem tk_fail (hw : L[pickN (nxtX x) L.length]? = some w) (hh : hd w = some s) (hm : md w + 1 = st s) (hF : (w, s) ∈ F) : tickS st (L, K, Q, hd, md, sd, bg, dr, F, x, tk, sp, fd, ba) = (L.eraseIdx (pickN (nxtX x) L.length), s :: K, Q, hd, md, fu sd s 4, bg, dr, F.erase (w, s), nxtX x, tk + 1, sp, fd + 1, ba) := by
  simp only [tickS, actS, gd_w hw, hh, if_pos hm, if_pos hF]
variable {n b : Nat} {bo : Nat → Int32}
theorem inv_takeK (h : InvC n st bo b L (s :: K) Q hd md sd dr F) (hst : ∀ s, s < n → 0 < st s) (hw : hd w = none) : InvC n st bo b L K Q (fu hd w (some s)) (fu md w 0) (fu sd s 2) dr F := by
  obtain ⟨hs, h4⟩ := h.2.1.2 s List.mem_cons_self
  have hN := List.nodup_cons.mp h.2.1.1
  refine inv_take h hst hw hs (Or.inl h4) ⟨hN.2, fun t ht => ⟨List.mem_cons_of_mem _ ht, fun e => hN.1 (e ▸ ht)⟩⟩ ⟨h.2.2.2.2.1.1, fun t => ⟨fun ht => ⟨ht, fun e => ?_⟩, fun z => z.1⟩⟩
  subst e
  have := ((h.2.2.2.2.1.2 t).mp ht).2
  omega
theorem inv_takeQ (h : InvC n st bo b L [] (s :: Q) hd md sd dr F) (hst : ∀ s, s < n → 0 < st s) (hw : hd w = none) : InvC n st bo b L [] Q (fu hd w (some s)) (fu md w 0) (fu sd s 2) dr F := by
  obtain ⟨hs, h4⟩ := (h.2.2.2.2.1.2 s).mp List.mem_cons_self
  have hN := List.pairwise_cons.mp h.2.2.2.2.1.1
  refine inv_take h hst hw hs (Or.inr h4) ⟨List.nodup_nil, fun t ht => absurd ht List.not_mem_nil⟩ ⟨hN.2, fun t => ⟨fun ht => ⟨List.mem_cons_of_mem _ ht, fun e => ?_⟩, fun z => ?_⟩⟩
  · subst e
    exact Nat.lt_irrefl _ (hN.1 t ht)
  · rcases List.mem_cons.mp z.1 with q | q
    · exact absurd q z.2
    · exact q
end TK
theorem len16 : ∀ (L : List Nat) (m : Nat), L.Pairwise (· < ·) → (∀ w, w ∈ L → w < m) → L.length ≤ m := by
  intro L m h1 h2
  have h3 : ∀ (L : List Nat) (a : Nat), L.Pairwise (· < ·) → (∀ w, w ∈ L → a ≤ w ∧ w < m) → L.length + a ≤ m ∨ L = [] := by
    intro L
    induction L with
    | nil => intro a _ _; exact Or.inr rfl
    | cons x L ih =>
      intro a hp hm
      have hx := hm x List.mem_cons_self
      obtain ⟨q1, q2⟩ := List.pairwise_cons.mp hp
      left
      rcases ih (x + 1) q2 (fun w hw => ⟨q1 w hw, (hm w (List.mem_cons_of_mem _ hw)).2⟩) with q | q
      · simp only [List.length_cons]; omega
      · subst q; simp only [List.length_cons, List.length_nil]; omega
  rcases h3 L 0 h1 (fun w hw => ⟨Nat.zero_le _, h2 w hw⟩) with q | q
  · omega
  · subst q; exact Nat.zero_le _
