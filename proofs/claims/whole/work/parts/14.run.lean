/-! pure rows: a run as a mathematical machine -/
def fu {α : Type} (f : Nat → α) (k : Nat) (v : α) : Nat → α := fun j => if j = k then v else f j
theorem fu_s {α : Type} {f : Nat → α} {k : Nat} {v : α} : fu f k v k = v := if_pos rfl
theorem fu_n {α : Type} {f : Nat → α} {k j : Nat} {v : α} (h : j ≠ k) : fu f k v j = f j := if_neg h
def hI : Option Nat → Int32
  | none => -1
  | some s => nI s
/-- how many of 0 .. n - 1 have a state of a kind -/
def cP (P : Nat → Bool) (sd : Nat → Nat) : Nat → Nat
  | 0 => 0
  | n + 1 => cP P sd n + (if P (sd n) = true then 1 else 0)
theorem cP_far {P : Nat → Bool} {sd : Nat → Nat} {s v : Nat} : ∀ n, n ≤ s → cP P (fu sd s v) n = cP P sd n := by
  intro n
  induction n with
  | zero => intro _; rfl
  | succ n ih => intro h; simp only [cP]; rw [ih (by omega), fu_n (by omega)]
theorem cP_upd {P : Nat → Bool} {sd : Nat → Nat} {s v : Nat} : ∀ n, s < n → cP P (fu sd s v) n + (if P (sd s) = true then 1 else 0) = cP P sd n + (if P v = true then 1 else 0) := by
  intro n
  induction n with
  | zero => intro h; exact absurd h (Nat.not_lt_zero s)
  | succ n ih =>
    intro h
    simp only [cP]
    by_cases q : s = n
    · subst q; rw [cP_far s (Nat.le_refl s), fu_s]; omega
    · rw [fu_n (by omega)]; have := ih (by omega); omega
theorem cP_zero {P : Nat → Bool} {sd : Nat → Nat} : ∀ n, cP P sd n = 0 ↔ ∀ s, s < n → P (sd s) = false := by
  intro n
  induction n with
  | zero => exact ⟨fun _ s h => absurd h (Nat.not_lt_zero s), fun _ => rfl⟩
  | succ n ih =>
    simp only [cP]
    constructor
    · intro h s hs
      have h1 : cP P sd n = 0 := by omega
      by_cases q : s = n
      · subst q
        cases hp : P (sd s) with
        | false => rfl
        | true => rw [hp] at h; simp at h
      · exact ih.mp h1 s (by omega)
    · intro h
      rw [ih.mpr (fun s hs => h s (by omega)), h n (by omega)]
      rfl
theorem cP_pos {P : Nat → Bool} {sd : Nat → Nat} {n s : Nat} (hs : s < n) (h : P (sd s) = true) : 0 < cP P sd n := by
  rcases Nat.eq_zero_or_pos (cP P sd n) with q | q
  · rw [(cP_zero n).mp q s hs] at h; cases h
  · exact q
theorem cP_le {P : Nat → Bool} {sd : Nat → Nat} : ∀ n, cP P sd n ≤ n := by
  intro n
  induction n with
  | zero => exact Nat.le_refl 0
  | succ n ih => simp only [cP]; split <;> omega
def oP : Nat → Bool := fun v => v != 0 && v != 3
def tP : Nat → Bool := fun v => v == 2 || v == 3
abbrev RS : Type := List Nat × List Nat × List Nat × (Nat → Option Nat) × (Nat → Nat) × (Nat → Nat) × (Nat → Int32) × (Nat → Int32) × List (Nat × Nat) × Int64 × Nat × Int32 × Int32 × Int32
abbrev rL (σ : RS) := σ.1
abbrev rK (σ : RS) := σ.2.1
abbrev rQ (σ : RS) := σ.2.2.1
abbrev rH (σ : RS) := σ.2.2.2.1
abbrev rM (σ : RS) := σ.2.2.2.2.1
abbrev rS (σ : RS) := σ.2.2.2.2.2.1
abbrev rBg (σ : RS) := σ.2.2.2.2.2.2.1
abbrev rDr (σ : RS) := σ.2.2.2.2.2.2.2.1
abbrev rF (σ : RS) := σ.2.2.2.2.2.2.2.2.1
abbrev rX (σ : RS) := σ.2.2.2.2.2.2.2.2.2.1
abbrev rTk (σ : RS) := σ.2.2.2.2.2.2.2.2.2.2.1
abbrev rSp (σ : RS) := σ.2.2.2.2.2.2.2.2.2.2.2.1
abbrev rFd (σ : RS) := σ.2.2.2.2.2.2.2.2.2.2.2.2.1
abbrev rBa (σ : RS) := σ.2.2.2.2.2.2.2.2.2.2.2.2.2
/-- worker w begins share s -/
def tkS (w s : Nat) (K Q : List Nat) : RS → RS
  | (L, _, _, hd, md, sd, bg, dr, F, x, tk, sp, fd, ba) => (L, K, Q, fu hd w (some s), fu md w 0, fu sd s 2, upd bg s (bg s + 1), dr, F, x, tk, sp, fd, ba + 1)
/-- what the worker at place p does -/
def actS (st : Nat → Nat) (p : Nat) : RS → RS
  | (L, K, Q, hd, md, sd, bg, dr, F, x, tk, sp, fd, ba) =>
    match hd (L.getD p 0) with
    | none => match K with
      | s :: K' => tkS (L.getD p 0) s K' Q (L, K, Q, hd, md, sd, bg, dr, F, x, tk, sp, fd, ba)
      | [] => match Q with
        | s :: Q' => tkS (L.getD p 0) s [] Q' (L, K, Q, hd, md, sd, bg, dr, F, x, tk, sp, fd, ba)
        | [] => (L, K, Q, hd, md, sd, bg, dr, F, x, tk, sp, fd, ba)
    | some s =>
      if md (L.getD p 0) + 1 = st s then
        if (L.getD p 0, s) ∈ F then (L.eraseIdx p, s :: K, Q, hd, md, fu sd s 4, bg, dr, F.erase (L.getD p 0, s), x, tk, sp, fd + 1, ba)
        else (L, K, Q, fu hd (L.getD p 0) none, fu md (L.getD p 0) (md (L.getD p 0) + 1), fu sd s 3, bg, upd dr s (nI (L.getD p 0)), F, x, tk, sp + 1, fd, ba)
      else (L, K, Q, hd, fu md (L.getD p 0) (md (L.getD p 0) + 1), sd, bg, dr, F, x, tk, sp + 1, fd, ba)
def tickS (st : Nat → Nat) : RS → RS
  | (L, K, Q, hd, md, sd, bg, dr, F, x, tk, sp, fd, ba) => actS st (pickN (nxtX x) L.length) (L, K, Q, hd, md, sd, bg, dr, F, nxtX x, tk + 1, sp, fd, ba)
def bRun (n : Nat) (st : Nat → Nat) : Nat → RS → Int32 × RS
  | 0, σ => (0, σ)
  | f + 1, σ => if cP oP (rS σ) n = 0 then (0, σ) else if rL σ = [] then (-1, σ) else if rTk σ = 20000 then (-2, σ) else bRun n st f (tickS st σ)
def bR (n : Nat) (st : Nat → Nat) (σ : RS) : Int32 × RS := bRun n st (20001 - rTk σ) σ
theorem tick_tk {st : Nat → Nat} {σ : RS} : rTk (tickS st σ) = rTk σ + 1 := by
  obtain ⟨L, K, Q, hd, md, sd, bg, dr, F, x, tk, sp, fd, ba⟩ := σ
  simp only [tickS, actS]
  split
  · split
    · rfl
    · split <;> rfl
  · split
    · split <;> rfl
    · rfl
theorem bR_done {n : Nat} {st : Nat → Nat} {σ : RS} (ht : rTk σ ≤ 20000) (h : cP oP (rS σ) n = 0) : bR n st σ = (0, σ) := by
  unfold bR
  rw [show 20001 - rTk σ = (20000 - rTk σ) + 1 by omega]
  simp only [bRun]
  rw [if_pos h]
theorem bR_none {n : Nat} {st : Nat → Nat} {σ : RS} (ht : rTk σ ≤ 20000) (h : ¬ cP oP (rS σ) n = 0) (hL : rL σ = []) : bR n st σ = (-1, σ) := by
  unfold bR
  rw [show 20001 - rTk σ = (20000 - rTk σ) + 1 by omega]
  simp only [bRun]
  rw [if_neg h, if_pos hL]
theorem bR_out {n : Nat} {st : Nat → Nat} {σ : RS} (ht : rTk σ = 20000) (h : ¬ cP oP (rS σ) n = 0) (hL : ¬ rL σ = []) : bR n st σ = (-2, σ) := by
  unfold bR
  rw [show 20001 - rTk σ = (20000 - rTk σ) + 1 by omega]
  simp only [bRun]
  rw [if_neg h, if_neg hL, if_pos ht]
theorem bR_step {n : Nat} {st : Nat → Nat} {σ : RS} (ht : rTk σ < 20000) (h : ¬ cP oP (rS σ) n = 0) (hL : ¬ rL σ = []) : bR n st σ = bR n st (tickS st σ) := by
  unfold bR
  rw [show 20001 - rTk σ = (20000 - rTk σ) + 1 by omega, tick_tk]
  simp only [bRun]
  rw [if_neg h, if_neg hL, if_neg (by omega), show 20001 - (rTk σ + 1) = 20000 - rTk σ by omega]
def sd0 (n : Nat) (bo : Nat → Int32) (b : Nat) : Nat → Nat := fun s => if s < n ∧ bo s = nI b then 1 else 0
def iniB (n : Nat) (bo : Nat → Int32) (b : Nat) : RS → RS
  | (L, _, _, hd, md, _, bg, dr, F, x, tk, sp, fd, ba) => (L, [], memB bo (nI b) n, hd, md, sd0 n bo b, bg, dr, F, x, tk, sp, fd, ba)
/-- the batches from b on, m of them -/
def gRun (n : Nat) (st : Nat → Nat) (bo : Nat → Int32) : Nat → Nat → RS → Int32 × Nat × RS
  | 0, b, σ => (0, b, σ)
  | m + 1, b, σ => if (bR n st (iniB n bo b σ)).1 = 0 then gRun n st bo m (b + 1) (bR n st (iniB n bo b σ)).2 else ((bR n st (iniB n bo b σ)).1, b, (bR n st (iniB n bo b σ)).2)
theorem mem_memB {bo : Nat → Int32} {b : Int32} {n s : Nat} : s ∈ memB bo b n ↔ s < n ∧ bo s = b := by
  unfold memB
  rw [List.mem_filter, List.mem_range]
  simp
theorem memB_sorted {bo : Nat → Int32} {b : Int32} {n : Nat} : (memB bo b n).Pairwise (· < ·) := by
  unfold memB
  exact List.Pairwise.filter _ List.pairwise_lt_range
theorem memB_cP {bo : Nat → Int32} {b : Nat} {n : Nat} : ∀ m, m ≤ n → cP oP (sd0 n bo b) m = (memB bo (nI b) m).length := by
  intro m
  induction m with
  | zero => intro _; rfl
  | succ m ih =>
    intro h
    simp only [cP]
    rw [ih (by omega)]
    by_cases q : bo m = nI b
    · rw [memB_in q, List.length_append]
      have : sd0 n bo b m = 1 := if_pos ⟨by omega, q⟩
      rw [this]; rfl
    · rw [memB_out q]
      have : sd0 n bo b m = 0 := if_neg (fun z => q z.2)
      rw [this]; rfl
theorem cP_sd0 {P : Nat → Bool} {bo : Nat → Int32} {b n : Nat} (h0 : P 0 = false) (h1 : P 1 = false) : ∀ m, cP P (sd0 n bo b) m = 0 := by
  intro m
  rw [cP_zero]
  intro s _
  unfold sd0
  split
  · exact h1
  · exact h0
