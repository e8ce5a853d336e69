/-! pure rows: the answers of the public methods -/
theorem has_in {n k : Nat} (hn : n < 2 ^ 31) (hk : k < n) : hasS n (nI k) = 1 := if_neg (fun h => h.elim (nI_pos (by omega)) (nI_ge hk hn))
theorem has_out {n : Nat} {x : Int32} (h : x < 0 ∨ nI n ≤ x) : hasS n x = 0 := if_pos h
def jF (lo : Nat → Int32) (f : Nat → Int64) : Nat → Int64
  | 0 => 0
  | i + 1 => if lo i = 0 then jn1 (jF lo f i) (f i) else jF lo f i
theorem jF_in {lo : Nat → Int32} {f : Nat → Int64} {i : Nat} (h : lo i = 0) : jF lo f (i + 1) = jn1 (jF lo f i) (f i) := if_pos h
theorem jF_out {lo : Nat → Int32} {f : Nat → Int64} {i : Nat} (h : ¬ lo i = 0) : jF lo f (i + 1) = jF lo f i := if_neg h
theorem jF_cg {lo lo' : Nat → Int32} {f f' : Nat → Int64} : ∀ n, (∀ s, s < n → (lo s = 0 ↔ lo' s = 0)) → (∀ s, s < n → lo s = 0 → f s = f' s) → jF lo f n = jF lo' f' n := by
  intro n
  induction n with
  | zero => intro _ _; rfl
  | succ n ih =>
    intro h1 h2
    have e := ih (fun s hs => h1 s (by omega)) (fun s hs => h2 s (by omega))
    by_cases q : lo n = 0
    · rw [jF_in q, jF_in ((h1 n (by omega)).mp q), e, h2 n (by omega) q]
    · rw [jF_out q, jF_out (fun z => q ((h1 n (by omega)).mpr z)), e]
def resR (lo : Nat → Int32) (vals : Nat → Int64) (st : Nat → Nat) (res : Nat → Int64) : Nat → Int64 := fun s => if lo s = 0 then stpF (vals s) (st s) else res s
def bitI (y : Int32) : Int32 := 1 <<< (y &&& 31)
