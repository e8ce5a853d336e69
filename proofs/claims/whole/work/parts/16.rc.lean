/-! pure rows: masks of failures; the class's cells against the pure machine -/
theorem bitm_bv : ∀ t, t < 64 → (bitm (nI t)).toBitVec = BitVec.twoPow 64 t := by decide +kernel
theorem bit_0 {x : Int64} {t : Nat} (ht : t < 64) : x &&& bitm (nI t) = 0 ↔ x.toBitVec.getLsbD t = false := by
  rw [← Int64.toBitVec_inj, Int64.toBitVec_and, bitm_bv t ht, BitVec.and_twoPow]
  constructor
  · intro h
    cases hb : x.toBitVec.getLsbD t with
    | false => rfl
    | true =>
      rw [hb, if_pos rfl] at h
      have h1 := congrArg (fun z : BitVec 64 => z.getLsbD t) h
      simp [ht] at h1
  · intro h
    rw [h]
    rfl
theorem bit_or {x : Int64} {t u : Nat} (ht : t < 64) (hu : u < 64) : (x ||| bitm (nI t)) &&& bitm (nI u) = 0 ↔ x &&& bitm (nI u) = 0 ∧ u ≠ t := by
  rw [bit_0 hu, bit_0 hu, Int64.toBitVec_or, BitVec.getLsbD_or, bitm_bv t ht, BitVec.getLsbD_twoPow]
  by_cases e : u = t
  · subst e; simp [hu]
  · simp [e, show t ≠ u from fun z => e z.symm]
theorem bit_an {x : Int64} {t u : Nat} (ht : t < 64) (hu : u < 64) : (x &&& (bitm (nI t) ^^^ (-1))) &&& bitm (nI u) = 0 ↔ x &&& bitm (nI u) = 0 ∨ u = t := by
  have hm : (-1 : Int64).toBitVec = BitVec.allOnes 64 := by decide
  rw [bit_0 hu, bit_0 hu, Int64.toBitVec_and, BitVec.getLsbD_and, Int64.toBitVec_xor, BitVec.getLsbD_xor, bitm_bv t ht, hm, BitVec.getLsbD_twoPow, BitVec.getLsbD_allOnes]
  by_cases e : u = t
  · subst e; simp [hu]
  · simp [e, hu, show t ≠ u from fun z => e z.symm]
def FRep (n : Nat) (F : List (Nat × Nat)) (fs : Nat → Int64) : Prop := ∀ w t, w < 16 → t < n → (fs w &&& bitm (nI t) = 0 ↔ ¬ (w, t) ∈ F)
theorem fr_has {n : Nat} {F : List (Nat × Nat)} {fs : Nat → Int64} {w t : Nat} (h : FRep n F fs) (hw : w < 16) (ht : t < n) : fhas (fs w) (nI t) = if (w, t) ∈ F then 1 else 0 := by
  unfold fhas
  by_cases q : (w, t) ∈ F
  · rw [if_pos q, if_neg (fun z => (h w t hw ht).mp z q)]
  · rw [if_neg q, if_pos ((h w t hw ht).mpr q)]
theorem fr_add {n : Nat} {F : List (Nat × Nat)} {fs : Nat → Int64} {w t : Nat} (hn : n ≤ 64) (h : FRep n F fs) (ht : t < n) : FRep n (F ++ [(w, t)]) (vp_updL fs w (fs w ||| bitm (nI t))) := by
  intro v u hv hu
  by_cases q : v = w
  · subst q
    rw [pk_uLs, bit_or (by omega) (by omega), h v u hv hu]
    simp
  · rw [pk_uLn q, h v u hv hu]
    simp [q]
theorem fr_rem {n : Nat} {F : List (Nat × Nat)} {fs : Nat → Int64} {w t : Nat} (hn : n ≤ 64) (h : FRep n F fs) (hN : F.Nodup) (ht : t < n) : FRep n (F.erase (w, t)) (vp_updL fs w (fs w &&& (bitm (nI t) ^^^ (-1)))) := by
  intro v u hv hu
  rw [hN.mem_erase_iff]
  by_cases q : v = w
  · subst q
    rw [pk_uLs, bit_an (by omega) (by omega), h v u hv hu]
    by_cases e : u = t
    · subst e; simp
    · simp [e]
  · rw [pk_uLn q, h v u hv hu]
    simp [q]
theorem fr_nil {n : Nat} : FRep n [] (fun _ => 0) := by
  intro w t _ _
  simp
/-- the class's cells and the machine's state -/
def RC (n : Nat) (vals : Nat → Int64) (st : Nat → Nat) (L K Q : List Nat) (hd : Nat → Option Nat) (mn sd : Nat → Nat) (dr : Nat → Int32) (F : List (Nat × Nat)) (oc fs md : Nat → Int64) (rw so sm lv : Nat → Int32) (und fc fr en lc : Int32) : Prop :=
  ∃ f : Nat, (lc = nI L.length ∧ fr = nI f ∧ en = nI (f + (K ++ Q).length) ∧ und = nI (cP oP sd n) ∧ fc = nI F.length) ∧ (∀ i w, L[i]? = some w → lv i = nI w) ∧ (∀ w, w ∈ L → so w = hI (hd w)) ∧ (∀ w, w ∈ L → ∀ s, hd w = some s → sm w = nI (mn w) ∧ md w = stpF (vals s) (mn w)) ∧ RowIs rw f (K ++ Q) ∧ f + (K ++ Q).length ≤ n ∧ cP tP sd n ≤ f ∧ (∀ s, s < n → ¬ dr s = -1 → oc s = stpF (vals s) (st s)) ∧ FRep n F fs
theorem rc_take {n : Nat} {vals : Nat → Int64} {st : Nat → Nat} {L K Q K' Q' : List Nat} {hd : Nat → Option Nat} {mn sd : Nat → Nat} {dr : Nat → Int32} {F : List (Nat × Nat)} {oc fs md : Nat → Int64} {rw so sm lv : Nat → Int32} {und fc fr en lc : Int32} {w s f : Nat}
    (h : RC n vals st L K Q hd mn sd dr F oc fs md rw so sm lv und fc fr en lc) (hf : fr = nI f) (hf2 : f < 2 ^ 31) (hn : n < 2 ^ 31) (hs : s < n) (h4 : sd s = 4 ∨ sd s = 1) (hq : K ++ Q = s :: (K' ++ Q')) :
    RC n vals st L K' Q' (fu hd w (some s)) (fu mn w 0) (fu sd s 2) dr F oc fs (vp_updL md w (vals s)) rw (upd so w (nI s)) (upd sm w 0) lv und fc (nI (f + 1)) en lc := by
  obtain ⟨f0, ⟨e1, e2, e3, e4, e5⟩, a1, a2, a3, a4, a5, a6, a7, a8⟩ := h
  have hl : (K ++ Q).length = (K' ++ Q').length + 1 := by rw [hq]; rfl
  have ef : f0 = f := by
    have : nI f0 = nI f := by rw [← e2, hf]
    exact (nI_eq (by omega) hf2).mp this
  subst ef
  have hu1 := cP_upd (P := oP) (sd := sd) (s := s) (v := 2) n hs
  have hu2 := cP_upd (P := tP) (sd := sd) (s := s) (v := 2) n hs
  have o2 : oP 2 = true := rfl
  have t2 : tP 2 = true := rfl
  have os : oP (sd s) = true := by rcases h4 with q | q <;> rw [q] <;> rfl
  have ts : tP (sd s) = false := by rcases h4 with q | q <;> rw [q] <;> rfl
  rw [os, o2, if_pos rfl] at hu1
  rw [ts, t2, if_pos rfl, if_neg (by decide)] at hu2
  rw [hq] at a4
  refine ⟨f0 + 1, ⟨e1, rfl, by rw [e3, hl]; congr 1; omega, by rw [e4]; congr 1; omega, e5⟩, a1, fun v hv => ?_, fun v hv t ht => ?_, (row_tail a4).2, by omega, by omega, a7, a8⟩
  · by_cases q : v = w
    · subst q; rw [pk_us, fu_s]; rfl
    · rw [pk_un q, fu_n q]; exact a2 v hv
  · by_cases q : v = w
    · subst q
      rw [fu_s] at ht
      cases ht
      rw [pk_us, fu_s, pk_uLs]
      exact ⟨rfl, rfl⟩
    · rw [fu_n q] at ht ⊢
      rw [pk_un q, pk_uLn q]
      exact a3 v hv t ht
theorem rc_step {n : Nat} {vals : Nat → Int64} {st : Nat → Nat} {L K Q : List Nat} {hd : Nat → Option Nat} {mn sd : Nat → Nat} {dr : Nat → Int32} {F : List (Nat × Nat)} {oc fs md : Nat → Int64} {rw so sm lv : Nat → Int32} {und fc fr en lc : Int32} {w s : Nat}
    (h : RC n vals st L K Q hd mn sd dr F oc fs md rw so sm lv und fc fr en lc) (hw : w ∈ L) (hh : hd w = some s) :
    RC n vals st L K Q hd (fu mn w (mn w + 1)) sd dr F oc fs (vp_updL md w (mkst (md w) (vals s) (sm w))) rw so (upd sm w (sm w + 1)) lv und fc fr en lc := by
  obtain ⟨f0, e0, a1, a2, a3, a4, a5, a6, a7, a8⟩ := h
  refine ⟨f0, e0, a1, a2, fun v hv t ht => ?_, a4, a5, a6, a7, a8⟩
  by_cases q : v = w
  · subst q
    rw [hh] at ht
    cases ht
    obtain ⟨q1, q2⟩ := a3 v hw s hh
    rw [pk_us, fu_s, pk_uLs, q1, q2]
    exact ⟨nI_1 _, rfl⟩
  · rw [fu_n q, pk_un q, pk_uLn q]
    exact a3 v hv t ht
theorem rc_last {n : Nat} {vals : Nat → Int64} {st : Nat → Nat} {L K Q : List Nat} {hd : Nat → Option Nat} {mn sd : Nat → Nat} {dr : Nat → Int32} {F : List (Nat × Nat)} {oc fs md : Nat → Int64} {rw so sm lv : Nat → Int32} {und fc fr en lc : Int32} {w s : Nat}
    (h : RC n vals st L K Q hd mn sd dr F oc fs md rw so sm lv und fc fr en lc) (hn : n < 2 ^ 31) (hw : w ∈ L) (hh : hd w = some s) (hs : s < n) (h2 : sd s = 2) (hm : mn w + 1 = st s) :
    RC n vals st L K Q (fu hd w none) (fu mn w (mn w + 1)) (fu sd s 3) (upd dr s (nI w)) F (vp_updL oc s (vp_updL md w (mkst (md w) (vals s) (sm w)) w)) fs (vp_updL md w (mkst (md w) (vals s) (sm w))) rw (upd so w (-1)) (upd sm w (sm w + 1)) lv (und - 1) fc fr en lc := by
  obtain ⟨f0, ⟨e1, e2, e3, e4, e5⟩, a1, a2, a3, a4, a5, a6, a7, a8⟩ := h
  obtain ⟨q1, q2⟩ := a3 w hw s hh
  have hu1 := cP_upd (P := oP) (sd := sd) (s := s) (v := 3) n hs
  have hu2 := cP_upd (P := tP) (sd := sd) (s := s) (v := 3) n hs
  have o3 : oP 3 = false := rfl
  have t3 : tP 3 = true := rfl
  have os : oP (sd s) = true := by rw [h2]; rfl
  have ts : tP (sd s) = true := by rw [h2]; rfl
  rw [os, o3, if_pos rfl, if_neg (by decide)] at hu1
  rw [ts, t3, if_pos rfl] at hu2
  refine ⟨f0, ⟨e1, e2, e3, ?_, e5⟩, a1, fun v hv => ?_, fun v hv t ht => ?_, a4, a5, by omega, fun t ht hne => ?_, a8⟩
  · rw [e4, show cP oP sd n = cP oP (fu sd s 3) n + 1 by omega]
    exact nI_pred _
  · by_cases q : v = w
    · subst q; rw [pk_us, fu_s]; rfl
    · rw [pk_un q, fu_n q]; exact a2 v hv
  · by_cases q : v = w
    · subst q; rw [fu_s] at ht; cases ht
    · rw [fu_n q] at ht ⊢
      rw [pk_un q, pk_uLn q]
      exact a3 v hv t ht
  · by_cases q : t = s
    · subst q
      rw [pk_uLs, pk_uLs, q1, q2, ← hm]
      rfl
    · rw [pk_un q] at hne
      rw [pk_uLn q]
      exact a7 t ht hne
theorem rc_fail {n : Nat} {vals : Nat → Int64} {st : Nat → Nat} {L K Q : List Nat} {hd : Nat → Option Nat} {mn sd : Nat → Nat} {dr : Nat → Int32} {F : List (Nat × Nat)} {oc fs md : Nat → Int64} {rw so sm lv u : Nat → Int32} {und fc fr en lc : Int32} {w s p f : Nat}
    (h : RC n vals st L K Q hd mn sd dr F oc fs md rw so sm lv und fc fr en lc) (hf : fr = nI (f + 1)) (hf2 : f + 1 < 2 ^ 31) (hn : n ≤ 64) (hL : L.Pairwise (· < ·)) (hp : L[p]? = some w) (hs : s < n) (h2 : sd s = 2) (hN : F.Nodup) (hF : (w, s) ∈ F)
    (hu : (∀ j, j < p → u j = lv j) ∧ ∀ j, p ≤ j → j < L.length - 1 → u j = lv (j + 1)) :
    RC n vals st (L.eraseIdx p) (s :: K) Q hd mn (fu sd s 4) dr (F.erase (w, s)) oc (vp_updL fs w (fs w &&& (bitm (nI s) ^^^ (-1)))) md (upd rw f (nI s)) so sm u und (fc - 1) (nI f) en (nI (L.length - 1)) := by
  obtain ⟨f0, ⟨e1, e2, e3, e4, e5⟩, a1, a2, a3, a4, a5, a6, a7, a8⟩ := h
  have hpl : p < L.length := (List.getElem?_eq_some_iff.mp hp).1
  have ef : f0 = f + 1 := by
    have : nI f0 = nI (f + 1) := by rw [← e2, hf]
    exact (nI_eq (by omega) hf2).mp this
  subst ef
  have hu1 := cP_upd (P := oP) (sd := sd) (s := s) (v := 4) n hs
  have hu2 := cP_upd (P := tP) (sd := sd) (s := s) (v := 4) n hs
  have o3 : oP 4 = true := rfl
  have t3 : tP 4 = false := rfl
  have os : oP (sd s) = true := by rw [h2]; rfl
  have ts : tP (sd s) = true := by rw [h2]; rfl
  rw [os, o3, if_pos rfl] at hu1
  rw [ts, t3, if_pos rfl, if_neg (by decide)] at hu2
  have hlen : (s :: K ++ Q).length = (K ++ Q).length + 1 := rfl
  have hFl : F.length = (F.erase (w, s)).length + 1 := by
    rw [List.length_erase_of_mem hF]
    have := List.length_pos_of_mem hF
    omega
  have hme : ∀ v, v ∈ L.eraseIdx p → v ∈ L := fun v hv => ((mem_erIdx hL hp).mp hv).1
  refine ⟨f, ⟨?_, rfl, ?_, ?_, ?_⟩, fun i v hi => ?_, fun v hv => a2 v (hme v hv), fun v hv t ht => a3 v (hme v hv) t ht, row_cons a4, by omega, by omega, a7, fr_rem hn a8 hN hs⟩
  · rw [List.length_eraseIdx_of_lt hpl]
  · rw [e3, hlen]; congr 1; omega
  · rw [e4]; congr 1; omega
  · rw [e5, hFl]; exact nI_pred _
  · have hil : i < (L.eraseIdx p).length := (List.getElem?_eq_some_iff.mp hi).1
    rw [List.length_eraseIdx_of_lt hpl] at hil
    rw [List.getElem?_eraseIdx] at hi
    split at hi
    · rename_i q
      rw [hu.1 i q]; exact a1 i v hi
    · rename_i q
      rw [hu.2 i (by omega) hil]
      exact a1 (i + 1) v hi
/-- a batch begins -/
theorem rc_ini {n : Nat} {vals : Nat → Int64} {st : Nat → Nat} {L : List Nat} {hd : Nat → Option Nat} {mn : Nat → Nat} {dr bo : Nat → Int32} {b : Nat} {F : List (Nat × Nat)} {oc fs md : Nat → Int64} {rw so sm lv : Nat → Int32} {fc lc : Int32}
    (h1 : lc = nI L.length) (h2 : fc = nI F.length) (a1 : ∀ i w, L[i]? = some w → lv i = nI w) (a2 : ∀ w, w ∈ L → so w = hI (hd w)) (hh : ∀ w, w ∈ L → hd w = none) (a4 : RowIs rw 0 (memB bo (nI b) n)) (a7 : ∀ s, s < n → ¬ dr s = -1 → oc s = stpF (vals s) (st s)) (a8 : FRep n F fs) :
    RC n vals st L [] (memB bo (nI b) n) hd mn (sd0 n bo b) dr F oc fs md rw so sm lv (nI (memB bo (nI b) n).length) fc 0 (nI (memB bo (nI b) n).length) lc := by
  refine ⟨0, ⟨h1, rfl, by rw [Nat.zero_add]; rfl, by rw [memB_cP n (Nat.le_refl n)], h2⟩, a1, a2, fun w hw s hs => (by rw [hh w hw] at hs; cases hs), a4, ?_, ?_, a7, a8⟩
  · rw [Nat.zero_add]; exact memB_le n
  · rw [cP_sd0 rfl rfl]; exact Nat.le_refl 0
/-- where all is done, nobody has a share and none waits -/
theorem inv_end {n : Nat} {st : Nat → Nat} {bo : Nat → Int32} {b : Nat} {L K Q : List Nat} {hd : Nat → Option Nat} {md sd : Nat → Nat} {dr : Nat → Int32} {F : List (Nat × Nat)} (h : InvC n st bo b L K Q hd md sd dr F) (h0 : cP oP sd n = 0) : K = [] ∧ Q = [] ∧ (∀ w, w ∈ L → hd w = none) ∧ ∀ s, s < n → ∀ b', b' < b + 1 → bo s = nI b' → ¬ dr s = -1 := by
  obtain ⟨a1, ⟨b1, b2⟩, c1, d1, ⟨e1, e2⟩, f1, g1, i1, j1⟩ := h
  have hz := (cP_zero n).mp h0
  refine ⟨?_, ?_, fun w hw => ?_, fun s hs b' hb' e => ?_⟩
  · cases K with
    | nil => rfl
    | cons s K =>
      obtain ⟨q1, q2⟩ := b2 s List.mem_cons_self
      have := hz s q1
      rw [q2] at this; exact absurd this (by decide)
  · cases Q with
    | nil => rfl
    | cons s Q =>
      obtain ⟨q1, q2⟩ := (e2 s).mp List.mem_cons_self
      have := hz s q1
      rw [q2] at this; exact absurd this (by decide)
  · cases hh : hd w with
    | none => rfl
    | some s =>
      obtain ⟨q1, q2, _⟩ := c1 w hw s hh
      have := hz s q1
      rw [q2] at this; exact absurd this (by decide)
  · by_cases q : b' = b
    · subst q
      refine g1 s hs ?_
      have h1 := hz s hs
      have h2 : ¬ sd s = 0 := fun z => (i1 s hs).mp z e
      unfold oP at h1
      simp at h1
      exact h1 h2
    · exact j1 s hs b' (by omega) e
theorem inv_ini {n : Nat} {st : Nat → Nat} {bo : Nat → Int32} {b : Nat} {L : List Nat} {hd : Nat → Option Nat} {md : Nat → Nat} {dr : Nat → Int32} {F : List (Nat × Nat)} (a1 : L.Pairwise (· < ·) ∧ ∀ w, w ∈ L → w < 16) (hh : ∀ w, w ∈ L → hd w = none) (f1 : F.Nodup ∧ ∀ q, q ∈ F → q.1 < 16 ∧ q.2 < n) (j1 : ∀ s, s < n → ∀ b', b' < b → bo s = nI b' → ¬ dr s = -1) : InvC n st bo b L [] (memB bo (nI b) n) hd md (sd0 n bo b) dr F := by
  refine ⟨a1, ⟨List.nodup_nil, fun s h => absurd h List.not_mem_nil⟩, fun w hw s hs => (by rw [hh w hw] at hs; cases hs), fun w w' hw hw' s hs => (by rw [hh w hw] at hs; cases hs), ⟨memB_sorted, fun s => ?_⟩, f1, fun s hs h3 => ?_, fun s hs => ?_, j1⟩
  · rw [mem_memB]
    unfold sd0
    by_cases q : s < n ∧ bo s = nI b
    · rw [if_pos q]; exact ⟨fun _ => ⟨q.1, rfl⟩, fun _ => q⟩
    · rw [if_neg q]; exact ⟨fun z => absurd z q, fun z => absurd z.2 (by decide)⟩
  · unfold sd0 at h3
    split at h3 <;> exact absurd h3 (by decide)
  · unfold sd0
    by_cases q : s < n ∧ bo s = nI b
    · rw [if_pos q]; exact ⟨fun z => absurd z (by decide), fun z => absurd q.2 z⟩
    · rw [if_neg q]; exact ⟨fun _ z => q ⟨hs, z⟩, fun _ => rfl⟩
