/-! pure rows: class and reference side by side -/
def LI (n : Nat) (st : Nat → Nat) (F : List (Nat × Nat)) (bg dr : Nat → Int32) (tk sp fd bd ba fc : Int32) (fs : Nat → Int64) (lc : Int32) (vals : Nat → Int64) (stp reg lo : Nat → Int32) (res : Nat → Int64) (fl : Int32) (zv : Nat → Int64) (zt zg zo zw zy : Nat → Int32) (zr : Nat → Int64) (zc zn zd : Nat → Int32) : Prop :=
  (1 ≤ n ∧ n ≤ 64) ∧ (∀ s, s < n → stp s = nI (st s) ∧ 0 < st s ∧ st s ≤ 20) ∧ ((F.Nodup ∧ ∀ q, q ∈ F → q.1 < 16 ∧ q.2 < n) ∧ F.length ≤ 20) ∧ (fc = nI F.length ∧ FRep n F fs) ∧ (fl = nI F.length ∧ FM F zw zy) ∧ (∀ s, s < n → zv s = vals s) ∧ (∀ s, s < n → zt s = stp s) ∧ (∀ s, s < n → zg s = reg s) ∧ (∀ s, s < n → zo s = lo s) ∧ (∀ s, s < n → zr s = res s) ∧ (∀ s, s < n → zn s = bg s) ∧ (∀ s, s < n → zd s = dr s) ∧ (zc 0 = tk ∧ zc 1 = sp ∧ zc 2 = fd ∧ zc 3 = lc ∧ zc 4 = bd ∧ zc 5 = ba)
theorem up_cg {f g : Nat → Int32} {n k : Nat} {x : Int32} (h : ∀ s, s < n → f s = g s) : ∀ s, s < n → upd f k x s = upd g k x s := by
  intro s hs
  by_cases q : s = k
  · subst q; rw [pk_us, pk_us]
  · rw [pk_un q, pk_un q]; exact h s hs
theorem upl_cg {f g : Nat → Int64} {n k : Nat} {x : Int64} (h : ∀ s, s < n → f s = g s) : ∀ s, s < n → vp_updL f k x s = vp_updL g k x s := by
  intro s hs
  by_cases q : s = k
  · subst q; rw [pk_uLs, pk_uLs]
  · rw [pk_uLn q, pk_uLn q]; exact h s hs
section LIs
variable {n : Nat} {st : Nat → Nat} {F : List (Nat × Nat)} {bg dr : Nat → Int32} {tk sp fd bd ba fc : Int32} {fs : Nat → Int64} {lc : Int32} {vals : Nat → Int64} {stp reg lo : Nat → Int32} {res : Nat → Int64} {fl : Int32} {zv : Nat → Int64} {zt zg zo zw zy : Nat → Int32} {zr : Nat → Int64} {zc zn zd : Nat → Int32}
theorem li_value (h : LI n st F bg dr tk sp fd bd ba fc fs lc vals stp reg lo res fl zv zt zg zo zw zy zr zc zn zd) (k : Nat) (v : Int64) : LI n st F bg dr tk sp fd bd ba fc fs lc (vp_updL vals k v) stp reg lo res fl (vp_updL zv k v) zt zg zo zw zy zr zc zn zd := by
  obtain ⟨a1, a2, a3, a4, a5, a6, a7, a8, a9, a10, a11, a12, a13⟩ := h
  exact ⟨a1, a2, a3, a4, a5, upl_cg a6, a7, a8, a9, a10, a11, a12, a13⟩
theorem li_steps (h : LI n st F bg dr tk sp fd bd ba fc fs lc vals stp reg lo res fl zv zt zg zo zw zy zr zc zn zd) (k : Nat) {q : Nat} (h1 : 1 ≤ q) (h2 : q ≤ 20) : LI n (fu st k q) F bg dr tk sp fd bd ba fc fs lc vals (upd stp k (nI q)) reg lo res fl zv (upd zt k (nI q)) zg zo zw zy zr zc zn zd := by
  obtain ⟨a1, a2, a3, a4, a5, a6, a7, a8, a9, a10, a11, a12, a13⟩ := h
  refine ⟨a1, fun s hs => ?_, a3, a4, a5, a6, up_cg a7, a8, a9, a10, a11, a12, a13⟩
  by_cases e : s = k
  · subst e; rw [pk_us, fu_s]; exact ⟨rfl, h1, h2⟩
  · rw [pk_un e, fu_n e]; exact a2 s hs
theorem li_touch (h : LI n st F bg dr tk sp fd bd ba fc fs lc vals stp reg lo res fl zv zt zg zo zw zy zr zc zn zd) {k : Nat} (hk : k < n) (x : Int32) : LI n st F bg dr tk sp fd bd ba fc fs lc vals stp (upd reg k (reg k ||| x)) lo res fl zv zt (upd zg k (zg k ||| x)) zo zw zy zr zc zn zd := by
  obtain ⟨a1, a2, a3, a4, a5, a6, a7, a8, a9, a10, a11, a12, a13⟩ := h
  rw [a8 k hk]
  exact ⟨a1, a2, a3, a4, a5, a6, a7, up_cg a8, a9, a10, a11, a12, a13⟩
theorem li_touch0 (h : LI n st F bg dr tk sp fd bd ba fc fs lc vals stp reg lo res fl zv zt zg zo zw zy zr zc zn zd) {k : Nat} {x : Int32} (hx : zg k = zg k ||| x) : LI n st F bg dr tk sp fd bd ba fc fs lc vals stp reg lo res fl zv zt (upd zg k (zg k ||| x)) zo zw zy zr zc zn zd := by
  obtain ⟨a1, a2, a3, a4, a5, a6, a7, a8, a9, a10, a11, a12, a13⟩ := h
  refine ⟨a1, a2, a3, a4, a5, a6, a7, fun s hs => ?_, a9, a10, a11, a12, a13⟩
  by_cases e : s = k
  · subst e; rw [pk_us, ← hx]; exact a8 s hs
  · rw [pk_un e]; exact a8 s hs
theorem li_leave (h : LI n st F bg dr tk sp fd bd ba fc fs lc vals stp reg lo res fl zv zt zg zo zw zy zr zc zn zd) (k : Nat) (y : Int32) : LI n st F bg dr tk sp fd bd ba fc fs lc vals stp reg (upd lo k y) res fl zv zt zg (upd zo k y) zw zy zr zc zn zd := by
  obtain ⟨a1, a2, a3, a4, a5, a6, a7, a8, a9, a10, a11, a12, a13⟩ := h
  exact ⟨a1, a2, a3, a4, a5, a6, a7, a8, up_cg a9, a10, a11, a12, a13⟩
theorem li_leave0 (h : LI n st F bg dr tk sp fd bd ba fc fs lc vals stp reg lo res fl zv zt zg zo zw zy zr zc zn zd) {k : Nat} {y : Int32} (hk : k < n) (hy : lo k = y) : LI n st F bg dr tk sp fd bd ba fc fs lc vals stp reg lo res fl zv zt zg (upd zo k y) zw zy zr zc zn zd := by
  obtain ⟨a1, a2, a3, a4, a5, a6, a7, a8, a9, a10, a11, a12, a13⟩ := h
  refine ⟨a1, a2, a3, a4, a5, a6, a7, a8, fun s hs => ?_, a10, a11, a12, a13⟩
  by_cases e : s = k
  · subst e; rw [pk_us]; exact hy.symm
  · rw [pk_un e]; exact a9 s hs
theorem li_fail (h : LI n st F bg dr tk sp fd bd ba fc fs lc vals stp reg lo res fl zv zt zg zo zw zy zr zc zn zd) {w k : Nat} (hw : w < 16) (hk : k < n) (hno : ¬ (w, k) ∈ F) (h20 : F.length < 20) : LI n st (F ++ [(w, k)]) bg dr tk sp fd bd ba (fc + 1) (vp_updL fs w (fs w ||| bitm (nI k))) lc vals stp reg lo res (nI (F.length + 1)) zv zt zg zo (upd zw F.length (nI w)) (upd zy F.length (nI k)) zr zc zn zd := by
  obtain ⟨a1, a2, ⟨⟨b1, b2⟩, b3⟩, a4, a5, a6, a7, a8, a9, a10, a11, a12, a13⟩ := h
  have hl : (F ++ [(w, k)]).length = F.length + 1 := by rw [List.length_append]; rfl
  refine ⟨a1, a2, ⟨⟨?_, fun q hq => ?_⟩, by omega⟩, ⟨by rw [hl, a4.1]; exact nI_1 _, fr_add a1.2 a4.2 hk⟩, ⟨by rw [hl], fm_add a5.2⟩, a6, a7, a8, a9, a10, a11, a12, a13⟩
  · exact List.nodup_append.mpr ⟨b1, by simp, fun x hx y hy => by
      have : y = (w, k) := by simpa using hy
      subst this
      exact fun e => hno (e ▸ hx)⟩
  · rcases List.mem_append.mp hq with z | z
    · exact b2 q z
    · have : q = (w, k) := by simpa using z
      subst this
      exact ⟨hw, hk⟩
theorem li_clear (h1 : 1 ≤ n ∧ n ≤ 64) : LI n (fun _ => 1) [] (fun _ => -1) (fun _ => -1) 0 0 0 0 0 0 (fun _ => 0) 0 (fun _ => 0) (fun _ => 1) (fun _ => 0) (fun _ => 0) (fun _ => 0) 0 (fun _ => 0) (fun _ => 1) (fun _ => 0) (fun _ => 0) zw zy (fun _ => 0) (fun _ => 0) (fun _ => -1) (fun _ => -1) :=
  ⟨h1, fun _ _ => ⟨rfl, Nat.one_pos, by show 1 ≤ 20; omega⟩, ⟨⟨List.nodup_nil, fun q h => absurd h List.not_mem_nil⟩, Nat.zero_le _⟩, ⟨rfl, fr_nil⟩, ⟨rfl, fm_nil⟩, fun _ _ => rfl, fun _ _ => rfl, fun _ _ => rfl, fun _ _ => rfl, fun _ _ => rfl, fun _ _ => rfl, fun _ _ => rfl, ⟨rfl, rfl, rfl, rfl, rfl, rfl⟩⟩
/-- both runs are one -/
theorem li_run (h : LI n st F bg dr tk sp fd bd ba fc fs lc vals stp reg lo res fl zv zt zg zo zw zy zr zc zn zd) {W : Nat} {seed : Int64} {bo zb : Nat → Int32} {c c' : Nat} {r r' : Int32} {bd2 bd3 : Nat} {σ σ' : RS} {fc2 : Int32} {fs2 : Nat → Int64} {lc2 : Int32} {res2 : Nat → Int64} {fl2 : Int32} {zw2 zy2 zn2 zd2 zc2 : Nat → Int32} {zr2 : Nat → Int64}
    (y1 : IsBat n lo reg bo) (y2 : IsCnt n bo c) (y3 : c ≤ n) (y4 : gRun n st bo c 0 (rs0 W lo F seed) = (r, bd2, σ)) (y6 : (rF σ).Nodup ∧ ∀ q, q ∈ rF σ → q.1 < 16 ∧ q.2 < n) (y7 : fc2 = nI (rF σ).length) (y8 : FRep n (rF σ) fs2) (y9 : lc2 = nI (rL σ).length) (y10 : ∀ s, s < n → res2 s = if r = 0 then resR lo vals st res s else res s)
    (x1 : IsBat n zo zg zb) (x2 : IsCnt n zb c') (x3 : c' ≤ n) (x4 : gRun n st zb c' 0 (rs0 W lo F seed) = (r', bd3, σ')) (x5 : fl2 = nI (rF σ').length ∧ FM (rF σ') zw2 zy2) (x6 : ∀ s, s < n → zn2 s = rBg σ' s) (x7 : ∀ s, s < n → zd2 s = rDr σ' s) (x8 : zc2 0 = nI (rTk σ') ∧ zc2 1 = rSp σ' ∧ zc2 2 = rFd σ' ∧ zc2 3 = nI (rL σ').length ∧ zc2 4 = nI bd3 ∧ zc2 5 = rBa σ') (x9 : (rF σ').length ≤ 20) (x10 : ∀ s, s < n → zr2 s = if r' = 0 then resR zo zv st zr s else zr s) :
    r = r' ∧ LI n st (rF σ) (rBg σ) (rDr σ) (nI (rTk σ)) (rSp σ) (rFd σ) (nI bd2) (rBa σ) fc2 fs2 lc2 vals stp reg lo res2 fl2 zv zt zg zo zw2 zy2 zr2 zc2 zn2 zd2 := by
  obtain ⟨a1, a2, a3, a4, a5, a6, a7, a8, a9, a10, a11, a12, a13⟩ := h
  have eb : ∀ s, s < n → zb s = bo s := bat_uniq (by omega) (fun s hs => by rw [a9 s hs]) (fun s hs => a8 s hs) x1 y1
  have ec : c' = c := cnt_uniq (by omega) (by omega) eb x2 y2
  subst ec
  rw [gRun_cg eb, y4] at x4
  obtain ⟨er, e2⟩ := Prod.mk.inj x4
  obtain ⟨eb2, es⟩ := Prod.mk.inj e2
  subst er
  subst eb2
  subst es
  refine ⟨rfl, a1, a2, ⟨y6, x9⟩, ⟨y7, y8⟩, x5, a6, a7, a8, a9, fun s hs => ?_, x6, x7, x8.1, x8.2.1, x8.2.2.1, by rw [y9]; exact x8.2.2.2.1, x8.2.2.2.2.1, x8.2.2.2.2.2⟩
  rw [x10 s hs, y10 s hs]
  split
  · unfold resR
    rw [a9 s hs, a6 s hs, a10 s hs]
  · exact a10 s hs
theorem li_told (h : LI n st F bg dr tk sp fd bd ba fc fs lc vals stp reg lo res fl zv zt zg zo zw zy zr zc zn zd) : ∀ j, j < 6 → figS (nI j) tk sp fd lc bd ba = zc j := by
  obtain ⟨h0, h1, h2, h3, h4, h5⟩ := h.2.2.2.2.2.2.2.2.2.2.2.2
  intro j hj
  match j, hj with
  | 0, _ => exact h0.symm
  | 1, _ => exact h1.symm
  | 2, _ => exact h2.symm
  | 3, _ => exact h3.symm
  | 4, _ => exact h4.symm
  | 5, _ => exact h5.symm
  | j + 6, hj => omega
end LIs
theorem fig_no {x tk sp fd lc bd ba : Int32} (h : x < 0 ∨ ¬ x ≤ 6) : figS x tk sp fd lc bd ba = -3 := by
  have key : ∀ k : Int32, 0 ≤ k → k ≤ 6 → ¬ x = k := fun k h1 h2 e => by
    subst e
    rcases h with z | z
    · exact absurd h1 (Int32.not_le.mpr z)
    · exact z h2
  unfold figS
  rw [if_neg (key 0 (by decide) (by decide)), if_neg (key 1 (by decide) (by decide)), if_neg (key 2 (by decide) (by decide)), if_neg (key 3 (by decide) (by decide)), if_neg (key 4 (by decide) (by decide)), if_neg (key 5 (by decide) (by decide))]
/-- an int between two small numbers is nI of a number -/
theorem nI_btw {x : Int32} {a b : Nat} (ha : a < 2 ^ 31) (hb : b < 2 ^ 31) (h1 : ¬ x < nI a) (h2 : x ≤ nI b) : ∃ q, a ≤ q ∧ q ≤ b ∧ x = nI q := by
  have h3 := Int32.le_iff_toInt_le.mp h2
  have h4 : ¬ x.toInt < (nI a).toInt := fun q => h1 (Int32.lt_iff_toInt_lt.mpr q)
  rw [nI_toInt hb] at h3
  rw [nI_toInt ha] at h4
  refine ⟨x.toInt.toNat, by omega, by omega, ?_⟩
  apply Int32.toInt_inj.mp
  rw [nI_toInt (by omega)]
  omega
theorem bitI_bv : ∀ r, r < 16 → (bitI (nI r)).toBitVec = BitVec.twoPow 32 r := by decide +kernel
theorem tch_iff {z : Int32} {r : Nat} (hr : r < 16) : z &&& bitI (nI r) = 0 ↔ ¬ z = z ||| bitI (nI r) := by
  have h1 : z &&& bitI (nI r) = 0 ↔ z.toBitVec.getLsbD r = false := by
    rw [← Int32.toBitVec_inj, Int32.toBitVec_and, bitI_bv r hr, BitVec.and_twoPow]
    constructor
    · intro h
      cases hb : z.toBitVec.getLsbD r with
      | false => rfl
      | true =>
        rw [hb, if_pos rfl] at h
        have h1 := congrArg (fun q : BitVec 32 => q.getLsbD r) h
        simp [show r < 32 by omega] at h1
    · intro h
      rw [h]
      rfl
  rw [h1]
  constructor
  · intro h e
    have h2 := congrArg (fun q : Int32 => q.toBitVec.getLsbD r) e
    simp only [Int32.toBitVec_or, BitVec.getLsbD_or, bitI_bv r hr, BitVec.getLsbD_twoPow, h] at h2
    simp [show r < 32 by omega] at h2
  · intro h
    cases hb : z.toBitVec.getLsbD r with
    | false => rfl
    | true =>
      refine absurd ?_ h
      apply Int32.toBitVec_inj.mp
      rw [Int32.toBitVec_or, bitI_bv r hr]
      apply BitVec.eq_of_getLsbD_eq
      intro i hi
      rw [BitVec.getLsbD_or, BitVec.getLsbD_twoPow]
      by_cases e : r = i
      · subst e; simp [hb]
      · simp [e]
