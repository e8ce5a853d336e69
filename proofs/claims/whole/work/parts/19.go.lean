/-! pure rows: the batches one after the other -/
theorem bRun_zero {n : Nat} {st : Nat → Nat} : ∀ (f : Nat) (σ σ' : RS), f + rTk σ = 20001 → rTk σ ≤ 20000 → bRun n st f σ = (0, σ') → cP oP (rS σ') n = 0 := by
  intro f
  induction f with
  | zero => intro σ σ' h1 h2; omega
  | succ f ih =>
    intro σ σ' h1 h2 h
    simp only [bRun] at h
    split at h
    · rename_i q
      cases h
      exact q
    · split at h
      · cases h
      · split at h
        · cases h
        · rename_i q
          exact ih (tickS st σ) σ' (by rw [tick_tk]; omega) (by rw [tick_tk]; omega) h
theorem bR_zero {n : Nat} {st : Nat → Nat} {σ σ' : RS} (h2 : rTk σ ≤ 20000) (h : bR n st σ = (0, σ')) : cP oP (rS σ') n = 0 := bRun_zero (20001 - rTk σ) σ σ' (by omega) h2 h
theorem g_ok {n : Nat} {st : Nat → Nat} {bo : Nat → Int32} {m b : Nat} {σ σ' : RS} (h : bR n st (iniB n bo b σ) = (0, σ')) : gRun n st bo (m + 1) b σ = gRun n st bo m (b + 1) σ' := by
  simp only [gRun]
  rw [h, if_pos rfl]
theorem g_bad {n : Nat} {st : Nat → Nat} {bo : Nat → Int32} {m b : Nat} {r : Int32} {σ σ' : RS} (h : bR n st (iniB n bo b σ) = (r, σ')) (hr : ¬ r = 0) : gRun n st bo (m + 1) b σ = (r, b, σ') := by
  simp only [gRun]
  rw [h, if_neg hr]
theorem memB_cg {bo bo' : Nat → Int32} {b : Int32} : ∀ n, (∀ s, s < n → bo s = bo' s) → memB bo b n = memB bo' b n := by
  intro n
  induction n with
  | zero => intro _; rfl
  | succ n ih =>
    intro h
    have e := ih (fun s hs => h s (by omega))
    by_cases q : bo n = b
    · rw [memB_in q, memB_in (by rw [← h n (by omega)]; exact q), e]
    · rw [memB_out q, memB_out (by rw [← h n (by omega)]; exact q), e]
theorem iniB_cg {n : Nat} {bo bo' : Nat → Int32} (h : ∀ s, s < n → bo s = bo' s) (b : Nat) (σ : RS) : iniB n bo b σ = iniB n bo' b σ := by
  obtain ⟨L, K, Q, hd, md, sd, bg, dr, F, x, tk, sp, fd, ba⟩ := σ
  have e : sd0 n bo b = sd0 n bo' b := by
    funext s
    unfold sd0
    by_cases q : s < n
    · simp [q, h s q]
    · simp [q]
  simp only [iniB]
  rw [memB_cg n h, e]
theorem gRun_cg {n : Nat} {st : Nat → Nat} {bo bo' : Nat → Int32} (h : ∀ s, s < n → bo s = bo' s) : ∀ (m b : Nat) (σ : RS), gRun n st bo m b σ = gRun n st bo' m b σ := by
  intro m
  induction m with
  | zero => intro b σ; rfl
  | succ m ih => intro b σ; simp only [gRun]; rw [iniB_cg h b σ, ih]
def rs0 (wk : Nat) (lo : Nat → Int32) (F : List (Nat × Nat)) (seed : Int64) : RS := (List.range wk, [], [], fun _ => none, fun _ => 0, fun _ => 0, bgS lo, fun _ => -1, F, seed, 0, 0, 0, 0)
theorem range_sorted (w : Nat) (h : w ≤ 16) : (List.range w).Pairwise (· < ·) ∧ ∀ v, v ∈ List.range w → v < 16 := ⟨List.pairwise_lt_range, fun v hv => by have := List.mem_range.mp hv; omega⟩
theorem range_at {w i v : Nat} (h : (List.range w)[i]? = some v) : v = i ∧ i < w := by
  obtain ⟨h1, h2⟩ := List.getElem?_eq_some_iff.mp h
  simp at h1 h2
  exact ⟨h2.symm, h1⟩
