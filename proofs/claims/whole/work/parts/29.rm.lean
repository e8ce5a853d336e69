/-! pure rows: the reference's cells against the pure machine -/
theorem er_idx {q : Nat × Nat} : ∀ (F : List (Nat × Nat)) (k : Nat), F[k]? = some q → (∀ j : Nat, j < k → ¬ F[j]? = some q) → F.erase q = F.eraseIdx k := by
  intro F
  induction F with
  | nil => intro k h; simp at h
  | cons x F ih =>
    intro k h hl
    cases k with
    | zero =>
      simp at h
      subst h
      simp
    | succ k =>
      have hx : ¬ x = q := fun e => hl 0 (Nat.succ_pos k) (by simp [e])
      simp at h
      rw [List.erase_cons_tail (by simpa using hx), List.eraseIdx_cons_succ, ih k h (fun j hj => by have := hl (j + 1) (by omega); simpa using this)]
theorem fm_erase {F : List (Nat × Nat)} {q : Nat × Nat} {k : Nat} {zw zy zw' zy' : Nat → Int32} (h : FM F zw zy) (hk : F[k]? = some q) (hl : ∀ j : Nat, j < k → ¬ F[j]? = some q) (h1 : ∀ j, j < k → zw' j = zw j ∧ zy' j = zy j) (h2 : ∀ j, k ≤ j → j < F.length - 1 → zw' j = zw (j + 1) ∧ zy' j = zy (j + 1)) : FM (F.erase q) zw' zy' := by
  have hkl := (List.getElem?_eq_some_iff.mp hk).1
  rw [er_idx F k hk hl]
  intro i r hi
  have hil : i < (F.eraseIdx k).length := (List.getElem?_eq_some_iff.mp hi).1
  rw [List.length_eraseIdx_of_lt hkl] at hil
  rw [List.getElem?_eraseIdx] at hi
  split at hi
  · rename_i z
    rw [(h1 i z).1, (h1 i z).2]
    exact h i r hi
  · rename_i z
    obtain ⟨z1, z2⟩ := h2 i (by omega) hil
    rw [z1, z2]
    exact h (i + 1) r hi
theorem fm_add {F : List (Nat × Nat)} {zw zy : Nat → Int32} {w s : Nat} (h : FM F zw zy) : FM (F ++ [(w, s)]) (upd zw F.length (nI w)) (upd zy F.length (nI s)) := by
  intro i q hi
  by_cases hq : i < F.length
  · rw [List.getElem?_append_left hq] at hi
    rw [pk_un (by omega), pk_un (by omega)]
    exact h i q hi
  · rw [List.getElem?_append_right (by omega)] at hi
    have hz : i - F.length < 1 := (List.getElem?_eq_some_iff.mp hi).1
    have e : i = F.length := by omega
    subst e
    simp at hi
    subst hi
    rw [pk_us, pk_us]
    exact ⟨rfl, rfl⟩
theorem fm_nil {zw zy : Nat → Int32} : FM [] zw zy := fun i q h => by simp at h
theorem row_pre {row : Nat → Int32} {f : Nat} {q r : List Nat} (h : RowIs row f (q ++ r)) : RowIs row f q := by
  intro i s hi
  have hl := (List.getElem?_eq_some_iff.mp hi).1
  exact h i s (by rw [List.getElem?_append_left hl]; exact hi)
theorem row_lastx {row : Nat → Int32} {q : List Nat} {x : Nat} (h : RowIs row 0 (q ++ [x])) : row q.length = nI x := by
  have := h q.length x (by simp)
  rw [Nat.zero_add] at this
  exact this
def RM (n W : Nat) (L K : List Nat) (hd : Nat → Option Nat) (mn sd : Nat → Nat) (bg dr : Nat → Int32) (F : List (Nat × Nat)) (zs zl zh zk zf zw zy zn zd : Nat → Int32) (ah fl : Int32) : Prop :=
  (∀ w, w ∈ L → w < W) ∧ (∀ w, w < 16 → (¬ zl w = 0 ↔ w ∈ L)) ∧ (∀ w, w ∈ L → zh w = hI (hd w)) ∧ (∀ w, w ∈ L → ∀ s, hd w = some s → zk w = nI (mn w)) ∧ (∀ s, s < n → zs s = nI (sd s) ∧ sd s ≤ 4) ∧ (ah = nI K.length ∧ RowIs zf 0 K.reverse) ∧ (fl = nI F.length ∧ FM F zw zy) ∧ (∀ s, s < n → zn s = bg s) ∧ (∀ s, s < n → zd s = dr s)
section RMs
variable {n W : Nat} {L K K' : List Nat} {hd : Nat → Option Nat} {mn sd : Nat → Nat} {bg dr : Nat → Int32} {F : List (Nat × Nat)} {zs zl zh zk zf zw zy zn zd : Nat → Int32} {ah fl : Int32} {w s : Nat}
theorem rm_take (h : RM n W L K hd mn sd bg dr F zs zl zh zk zf zw zy zn zd ah fl) (hs : s < n) {ah' : Int32} (hah : ah' = nI K'.length ∧ RowIs zf 0 K'.reverse) :
    RM n W L K' (fu hd w (some s)) (fu mn w 0) (fu sd s 2) (upd bg s (bg s + 1)) dr F (upd zs s 2) zl (upd zh w (nI s)) (upd zk w 0) zf zw zy (upd zn s (zn s + 1)) zd ah' fl := by
  obtain ⟨a1, a2, a3, a4, a5, a6, a7, a8, a9⟩ := h
  refine ⟨a1, a2, fun v hv => ?_, fun v hv t ht => ?_, fun t ht => ?_, hah, a7, fun t ht => ?_, a9⟩
  · by_cases q : v = w
    · subst q; rw [pk_us, fu_s]; rfl
    · rw [pk_un q, fu_n q]; exact a3 v hv
  · by_cases q : v = w
    · subst q; rw [pk_us, fu_s]; rfl
    · rw [fu_n q] at ht ⊢
      rw [pk_un q]; exact a4 v hv t ht
  · by_cases q : t = s
    · subst q; rw [pk_us, fu_s]; exact ⟨rfl, by decide⟩
    · rw [pk_un q, fu_n q]; exact a5 t ht
  · by_cases q : t = s
    · subst q; rw [pk_us, pk_us, a8 t ht]
    · rw [pk_un q, pk_un q]; exact a8 t ht
theorem rm_step (h : RM n W L K hd mn sd bg dr F zs zl zh zk zf zw zy zn zd ah fl) (hw : w ∈ L) (hh : hd w = some s) :
    RM n W L K hd (fu mn w (mn w + 1)) sd bg dr F zs zl zh (upd zk w (zk w + 1)) zf zw zy zn zd ah fl := by
  obtain ⟨a1, a2, a3, a4, a5, a6, a7, a8, a9⟩ := h
  refine ⟨a1, a2, a3, fun v hv t ht => ?_, a5, a6, a7, a8, a9⟩
  by_cases q : v = w
  · subst q; rw [pk_us, fu_s, a4 v hw s hh]; exact nI_1 _
  · rw [pk_un q, fu_n q]; exact a4 v hv t ht
theorem rm_last (h : RM n W L K hd mn sd bg dr F zs zl zh zk zf zw zy zn zd ah fl) (hw : w ∈ L) (hh : hd w = some s) (hs : s < n) :
    RM n W L K (fu hd w none) (fu mn w (mn w + 1)) (fu sd s 3) bg (upd dr s (nI w)) F (upd zs s 3) zl (upd zh w (-1)) (upd zk w (zk w + 1)) zf zw zy zn (upd zd s (nI w)) ah fl := by
  obtain ⟨a1, a2, a3, a4, a5, a6, a7, a8, a9⟩ := h
  refine ⟨a1, a2, fun v hv => ?_, fun v hv t ht => ?_, fun t ht => ?_, a6, a7, a8, fun t ht => ?_⟩
  · by_cases q : v = w
    · subst q; rw [pk_us, fu_s]; rfl
    · rw [pk_un q, fu_n q]; exact a3 v hv
  · by_cases q : v = w
    · subst q; rw [fu_s] at ht; cases ht
    · rw [fu_n q] at ht ⊢
      rw [pk_un q]; exact a4 v hv t ht
  · by_cases q : t = s
    · subst q; rw [pk_us, fu_s]; exact ⟨rfl, by decide⟩
    · rw [pk_un q, fu_n q]; exact a5 t ht
  · by_cases q : t = s
    · subst q; rw [pk_us, pk_us]
    · rw [pk_un q, pk_un q]; exact a9 t ht
theorem rm_fail {p k : Nat} {zw' zy' : Nat → Int32} (h : RM n W L K hd mn sd bg dr F zs zl zh zk zf zw zy zn zd ah fl) (hL : L.Pairwise (· < ·)) (hp : L[p]? = some w) (hs : s < n) (hk : F[k]? = some (w, s)) (hl : ∀ j : Nat, j < k → ¬ F[j]? = some (w, s)) (h1 : ∀ j, j < k → zw' j = zw j ∧ zy' j = zy j) (h2 : ∀ j, k ≤ j → j < F.length - 1 → zw' j = zw (j + 1) ∧ zy' j = zy (j + 1)) :
    RM n W (L.eraseIdx p) (s :: K) hd mn (fu sd s 4) bg dr (F.erase (w, s)) (upd zs s 4) (upd zl w 0) (upd zh w (-1)) zk (upd zf K.length (nI s)) zw' zy' zn zd (nI (K.length + 1)) (nI (F.length - 1)) := by
  obtain ⟨a1, a2, a3, a4, a5, a6, a7, a8, a9⟩ := h
  have hm := fun v => mem_erIdx (v := v) hL hp
  refine ⟨fun v hv => a1 v ((hm v).mp hv).1, fun v hv => ?_, fun v hv => ?_, fun v hv t ht => a4 v ((hm v).mp hv).1 t ht, fun t ht => ?_, ⟨rfl, ?_⟩, ⟨?_, fm_erase a7.2 hk hl h1 h2⟩, a8, a9⟩
  · rw [hm v]
    by_cases q : v = w
    · subst q; rw [pk_us]; simp
    · rw [pk_un q, a2 v hv]; exact ⟨fun z => ⟨z, q⟩, fun z => z.1⟩
  · obtain ⟨z1, z2⟩ := (hm v).mp hv
    rw [pk_un z2]; exact a3 v z1
  · by_cases q : t = s
    · subst q; rw [pk_us, fu_s]; exact ⟨rfl, by decide⟩
    · rw [pk_un q, fu_n q]; exact a5 t ht
  · rw [List.reverse_cons]
    have := row_snoc (x := s) a6.2
    rw [List.length_reverse] at this
    exact this
  · rw [List.length_erase_of_mem (List.mem_of_getElem? hk)]
theorem rm_ini {bo : Nat → Int32} {b : Nat} (a1 : ∀ w, w ∈ L → w < W) (a2 : ∀ w, w < 16 → (¬ zl w = 0 ↔ w ∈ L)) (a3 : ∀ w, w ∈ L → zh w = hI (hd w)) (hh : ∀ w, w ∈ L → hd w = none) (hz : ∀ s, s < n → zs s = if bo s = nI b then 1 else 0) (hah : ah = 0) (a7 : fl = nI F.length ∧ FM F zw zy) (a8 : ∀ s, s < n → zn s = bg s) (a9 : ∀ s, s < n → zd s = dr s) :
    RM n W L [] hd mn (sd0 n bo b) bg dr F zs zl zh zk zf zw zy zn zd ah fl := by
  refine ⟨a1, a2, a3, fun w hw s hs => (by rw [hh w hw] at hs; cases hs), fun s hs => ?_, ⟨hah, row_nil⟩, a7, a8, a9⟩
  rw [hz s hs]
  unfold sd0
  by_cases q : bo s = nI b
  · rw [if_pos q, if_pos ⟨hs, q⟩]; exact ⟨rfl, by decide⟩
  · rw [if_neg q, if_neg (fun z => q z.2)]; exact ⟨rfl, by decide⟩
end RMs
theorem done_yes {n : Nat} {sd : Nat → Nat} {bo zs : Nat → Int32} {b : Nat} (h0 : cP oP sd n = 0) (hz : ∀ s, s < n → zs s = nI (sd s) ∧ sd s ≤ 4) (hb : ∀ s, s < n → (sd s = 0 ↔ ¬ bo s = nI b)) : ∀ s, s < n → ¬ bo s = nI b ∨ zs s = 3 := by
  intro s hs
  have h1 := (cP_zero n).mp h0 s hs
  by_cases q : sd s = 0
  · exact Or.inl ((hb s hs).mp q)
  · refine Or.inr ?_
    have : sd s = 3 := by
      unfold oP at h1
      simp at h1
      exact h1 q
    rw [(hz s hs).1, this]; rfl
theorem done_no {n : Nat} {sd : Nat → Nat} {bo zs : Nat → Int32} {b : Nat} (h0 : 0 < cP oP sd n) (hz : ∀ s, s < n → zs s = nI (sd s) ∧ sd s ≤ 4) (hb : ∀ s, s < n → (sd s = 0 ↔ ¬ bo s = nI b)) : ∃ s, s < n ∧ bo s = nI b ∧ ¬ zs s = 3 := by
  have h1 : ¬ ∀ s, s < n → oP (sd s) = false := fun z => by rw [(cP_zero n).mpr z] at h0; exact absurd h0 (by decide)
  obtain ⟨s, hs⟩ := Classical.not_forall.mp h1
  obtain ⟨hs1, hs2⟩ := Classical.not_imp.mp hs
  have h2 : oP (sd s) = true := by cases hq : oP (sd s) with
    | false => exact absurd hq hs2
    | true => rfl
  unfold oP at h2
  simp at h2
  refine ⟨s, hs1, ?_, fun z => ?_⟩
  · exact Classical.not_not.mp (fun z => h2.1 ((hb s hs1).mpr z))
  · rw [(hz s hs1).1] at z
    have := (hz s hs1).2
    exact h2.2 ((nI_eq (b := 3) (by omega) (by omega)).mp z)
theorem nd_len : ∀ (m : Nat) (K : List Nat), K.Nodup → (∀ t, t ∈ K → t < m) → K.length ≤ m := by
  intro m
  induction m with
  | zero =>
    intro K _ h
    cases K with
    | nil => exact Nat.le_refl 0
    | cons x K => exact absurd (h x List.mem_cons_self) (Nat.not_lt_zero x)
  | succ m ih =>
    intro K hN h
    have h1 := ih (K.erase m) (List.Pairwise.sublist List.erase_sublist hN) (fun t ht => by
      have h2 := hN.mem_erase_iff.mp ht
      have h3 := h t h2.2
      have h4 := h2.1
      omega)
    by_cases q : m ∈ K
    · rw [List.length_erase_of_mem q] at h1
      omega
    · rw [List.erase_of_not_mem q] at h1
      omega
