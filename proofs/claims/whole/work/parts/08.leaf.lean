set_option maxHeartbeats 4000000 in
set_option maxRecDepth 100000 in
theorem c_rot (l : Launch) (E : EE) (x : Int64) (d : Int32)  : Ml (S := Unit) l E yJ13_rotateLeft_b2ac5 (.code yJ13_rotateLeft_b2ac5 cJ13_rotateLeft_b2ac5 3 (some .long)) ({ frames := 0, cells := 0, slots := 0, locals := 0 }) [.long x, .int d] [] (fun (ans : Int64) (_ : Unit) => ans = rotl x d) (fun u : Unit => []) := by
  refine Ml.ofW (by decide) (Nat.le_of_ble_eq_true rfl) ?_
  intro pM eM sM mM bM meM cM AM ls hB hA hP hD hS hl
  obtain ⟨hx, hb, hr, hml, hown, hlocks, hnm, hts, hK⟩ := hB
  have hl : lv_has ls 3 [(0, .long x), (2, .int d)] := hl
  refine lv_lload_n hx hb dJ13_rotateLeft_b2ac5_0 rfl (lv_at hl 0 rfl) ?_
  refine lv_iload_n hx hb dJ13_rotateLeft_b2ac5_1 rfl (lv_at hl 1 rfl) ?_
  refine lv_lshl hx hb dJ13_rotateLeft_b2ac5_2 rfl ?_
  refine lv_lload_n hx hb dJ13_rotateLeft_b2ac5_3 rfl (lv_at hl 0 rfl) ?_
  refine lv_iload_n hx hb dJ13_rotateLeft_b2ac5_4 rfl (lv_at hl 1 rfl) ?_
  refine lv_ineg hx hb dJ13_rotateLeft_b2ac5_5 ?_
  refine lv_lushr hx hb dJ13_rotateLeft_b2ac5_6 rfl ?_
  refine lv_lor hx hb dJ13_rotateLeft_b2ac5_7 ?_
  exact Rl hx hb hr hlocks hP hD hS () [] rfl rfl (rfl) (Nat.le_of_ble_eq_true rfl) (Nat.le_of_ble_eq_true rfl) dJ13_rotateLeft_b2ac5_8

set_option maxHeartbeats 4000000 in
set_option maxRecDepth 100000 in
theorem c_jn1 (l : Launch) (E : EE) (j : Int64) (r : Int64)  : Ml (S := Unit) l E yX6_joinOne (.code yX6_joinOne cX6_joinOne 4 (some .long)) ({ frames := 1, cells := 0, slots := 0, locals := 22 }) [.long j, .long r] [] (fun (ans : Int64) (_ : Unit) => ans = jn1 j r) (fun u : Unit => []) := by
  refine Ml.ofW (by decide) (Nat.le_of_ble_eq_true rfl) ?_
  intro pM eM sM mM bM meM cM AM ls hB hA hP hD hS hl
  obtain ⟨hx, hb, hr, hml, hown, hlocks, hnm, hts, hK⟩ := hB
  have hl : lv_has ls 4 [(0, .long j), (2, .long r)] := hl
  refine lv_lload_n hx hb dX6_joinOne_0 rfl (lv_at hl 0 rfl) ?_
  refine lv_iconst (v := 5) hx hb dX6_joinOne_1 (by decide) ?_
  refine af_l (wc := []) (wr := []) (rn_S (As := [.long j, .int 5]) (rest := []) (n := 2) ⟨hx, hb, hml, hown, hts⟩ ta_cons wq_X6_125 (by decide +kernel) hK (c_rot l E j 5  _) ⟨Nat.le_of_ble_eq_true rfl, Nat.le_of_ble_eq_true rfl⟩ hP hD [] rfl rfl rfl hl.1 rfl (Nat.le_of_ble_eq_true rfl) dX6_joinOne_2 ⟨Nat.le_of_ble_eq_true rfl, Nat.le_of_ble_eq_true rfl⟩) hP hD hS hA [] [] rfl rfl rfl (by decide) (fun r_2 u_2 H locs hwC hP hD hS => ?_)
  subst hwC
  have hP : va_P E.1 classes [] H := hP
  have hD : va_D AM [] := hD
  refine lv_lload_n hx hb dX6_joinOne_5 rfl (lv_at hl 1 rfl) ?_
  refine lv_lxor hx hb dX6_joinOne_6 ?_
  exact Rl hx hb hr hlocks hP hD hS () [] rfl rfl (rfl) (Nat.le_of_ble_eq_true rfl) (Nat.le_of_ble_eq_true rfl) dX6_joinOne_7

set_option maxHeartbeats 4000000 in
set_option maxRecDepth 100000 in
theorem c_mkst (l : Launch) (E : EE) (a : Int64) (v : Int64) (k : Int32)  : Ml (S := Unit) l E yX6_makeStep (.code yX6_makeStep cX6_makeStep 5 (some .long)) ({ frames := 1, cells := 0, slots := 0, locals := 22 }) [.long a, .long v, .int k] [] (fun (ans : Int64) (_ : Unit) => ans = mkst a v k) (fun u : Unit => []) := by
  refine Ml.ofW (by decide) (Nat.le_of_ble_eq_true rfl) ?_
  intro pM eM sM mM bM meM cM AM ls hB hA hP hD hS hl
  obtain ⟨hx, hb, hr, hml, hown, hlocks, hnm, hts, hK⟩ := hB
  have hl : lv_has ls 5 [(0, .long a), (2, .long v), (4, .int k)] := hl
  refine lv_lload_n hx hb dX6_makeStep_0 rfl (lv_at hl 0 rfl) ?_
  refine lv_bipush (v := 7) hx hb dX6_makeStep_1 (by decide) ?_
  refine af_l (wc := []) (wr := []) (rn_S (As := [.long a, .int 7]) (rest := []) (n := 2) ⟨hx, hb, hml, hown, hts⟩ ta_cons wq_X6_125 (by decide +kernel) hK (c_rot l E a 7  _) ⟨Nat.le_of_ble_eq_true rfl, Nat.le_of_ble_eq_true rfl⟩ hP hD [] rfl rfl rfl hl.1 rfl (Nat.le_of_ble_eq_true rfl) dX6_makeStep_3 ⟨Nat.le_of_ble_eq_true rfl, Nat.le_of_ble_eq_true rfl⟩) hP hD hS hA [] [] rfl rfl rfl (by decide) (fun r_3 u_3 H locs hwC hP hD hS => ?_)
  subst hwC
  have hP : va_P E.1 classes [] H := hP
  have hD : va_D AM [] := hD
  refine lv_lload_n hx hb dX6_makeStep_6 rfl (lv_at hl 1 rfl) ?_
  refine lv_lxor hx hb dX6_makeStep_7 ?_
  refine lv_ldc2 (own := RX6) (v := 31) hx hb hown (hts _ (ta_cons _ mw_367)) dX6_makeStep_8 ?_
  refine lv_lmul hx hb dX6_makeStep_11 ?_
  refine lv_iload hx hb dX6_makeStep_12 (lv_at hl 2 rfl) ?_
  refine lv_i2l hx hb dX6_makeStep_14 rfl ?_
  refine lv_ladd hx hb dX6_makeStep_15 ?_
  exact Rl hx hb hr hlocks hP hD hS () [] rfl rfl (rfl) (Nat.le_of_ble_eq_true rfl) (Nat.le_of_ble_eq_true rfl) dX6_makeStep_16

set_option maxHeartbeats 4000000 in
set_option maxRecDepth 100000 in
theorem c_has (l : Launch) (E : EE) (n : Nat) (hw : Nat) (hv : Nat) (hs : Nat) (hg : Nat) (ho : Nat) (x : Int32)  : Mi (S := Unit) l E yX5_has (.code yX5_has cX5_has 2 (some .boolean)) ({ frames := 0, cells := 0, slots := 0, locals := 0 }) [.ref hw, .int x] [(hw, .inr (5, [.int (nI n), .ref hv, .ref hs, .ref hg, .ref ho]))] (fun (ans : Int32) (_ : Unit) => ans = hasS n x) (fun u : Unit => [(hw, .inr (5, [.int (nI n), .ref hv, .ref hs, .ref hg, .ref ho]))]) := by
  refine Mi.ofW (by decide) (Nat.le_of_ble_eq_true rfl) ?_
  intro pM eM sM mM bM meM cM AM ls hB hA hP hD hS hl
  obtain ⟨hx, hb, hr, hml, hown, hlocks, hnm, hts, hK⟩ := hB
  have hl : lv_has ls 2 [(0, .ref hw), (1, .int x)] := hl
  refine lv_iload_n hx hb dX5_has_0 rfl (lv_at hl 1 rfl) ?_
  refine lv_if_lt (tgt := 16) hx hb dX5_has_1 (by decide) (fun c_1 => ?_) (fun c_1 => ?_)
  · refine lv_iconst (v := 0) hx hb dX5_has_16 (by decide) ?_
    exact Rz hx hb hr hlocks (Or.inl rfl) hP hD hS () [0] rfl rfl ((if_pos (Or.inl c_1)).symm) (Nat.le_of_ble_eq_true rfl) (Nat.le_of_ble_eq_true rfl) dX5_has_17
  · refine lv_iload_n hx hb dX5_has_4 rfl (lv_at hl 1 rfl) ?_
    refine lv_aload_n hx hb dX5_has_5 rfl (lv_at hl 0 rfl) ?_
    refine va_get (D := E.1) (ci := 5) (v := .int (nI n)) (C := RX5) (T := TX5) (N := 5) hx hb hts ux_X5' hown hK.1 hP 0 rfl rfl 0 (by decide) (hts _ (ta_cons _ mw_58)) (fun _ h9 => h9) rfl dX5_has_6 ?_
    refine lv_icmp_ge (tgt := 16) hx hb dX5_has_9 (by decide) (fun c_9 => ?_) (fun c_9 => ?_)
    · refine lv_iconst (v := 0) hx hb dX5_has_16 (by decide) ?_
      exact Rz hx hb hr hlocks (Or.inl rfl) hP hD hS () [0] rfl rfl ((if_pos (Or.inr c_9)).symm) (Nat.le_of_ble_eq_true rfl) (Nat.le_of_ble_eq_true rfl) dX5_has_17
    · refine lv_iconst (v := 1) hx hb dX5_has_12 (by decide) ?_
      refine lv_goto (tgt := 17) hx hb dX5_has_13 (by decide) ?_
      exact Rz hx hb hr hlocks (Or.inr rfl) hP hD hS () [0] rfl rfl ((if_neg (fun h => h.elim c_1 c_9)).symm) (Nat.le_of_ble_eq_true rfl) (Nat.le_of_ble_eq_true rfl) dX5_has_17

set_option maxHeartbeats 4000000 in
set_option maxRecDepth 100000 in
theorem c_Work_reset (l : Launch) (E : EE) (n : Nat) (hw : Nat) (hv : Nat) (hs : Nat) (hg : Nat) (ho : Nat) (vals : Nat → Int64) (stp : Nat → Int32) (reg : Nat → Int32) (lo : Nat → Int32) (hn : n < 2 ^ 31) : Mv (S := Unit) l E yX5_reset (.code yX5_reset cX5_reset 2 none) ({ frames := 0, cells := 0, slots := 0, locals := 0 }) [.ref hw] [(hw, .inr (5, [.int (nI n), .ref hv, .ref hs, .ref hg, .ref ho])), (hv, .inl (E.2.2.1, n, .inr (.inl vals))), (hs, .inl (E.2.1, n, .inl stp)), (hg, .inl (E.2.1, n, .inl reg)), (ho, .inl (E.2.2.2, n, .inl lo))] (fun _ : Unit => True) (fun u : Unit => [(hw, .inr (5, [.int (nI n), .ref hv, .ref hs, .ref hg, .ref ho])), (hv, .inl (E.2.2.1, n, .inr (.inl (fun _ => 0)))), (hs, .inl (E.2.1, n, .inl (fun _ => 1))), (hg, .inl (E.2.1, n, .inl (fun _ => 0))), (ho, .inl (E.2.2.2, n, .inl (fun _ => 0)))]) := by
  refine Mv.ofW (by decide) (Nat.le_of_ble_eq_true rfl) ?_
  intro pM eM sM mM bM meM cM AM ls hB hA hP hD hS hl
  obtain ⟨hx, hb, hr, hml, hown, hlocks, hnm, hts, hK⟩ := hB
  have hl : lv_has ls 2 [(0, .ref hw)] := hl
  refine lv_iconst (v := 0) hx hb dX5_reset_0 (by decide) ?_
  refine lv_istore_n (lv' := [(1, .int 0), (0, .ref hw)]) hx hb dX5_reset_1 rfl hl (by decide) rfl (fun ls hl => ?_)
  refine W.loop (σ := (Nat) × (Nat → Int64) × (Nat → Int32) × (Nat → Int32) × (Nat → Int32)) (fun a H locs ls => match a with | (i, v, t, g, o) => va_P E.1 classes [(hw, .inr (5, [.int (nI n), .ref hv, .ref hs, .ref hg, .ref ho])), (hv, .inl (E.2.2.1, n, .inr (.inl v))), (hs, .inl (E.2.1, n, .inl t)), (hg, .inl (E.2.1, n, .inl g)), (ho, .inl (E.2.2.2, n, .inl o))] H ∧ va_D AM [(hw, .inr (5, [.int (nI n), .ref hv, .ref hs, .ref hg, .ref ho])), (hv, .inl (E.2.2.1, n, .inr (.inl v))), (hs, .inl (E.2.1, n, .inl t)), (hg, .inl (E.2.1, n, .inl g)), (ho, .inl (E.2.2.2, n, .inl o))] ∧ va_S AM sM.heap H locs ∧ lv_has ls 2 [(1, .int (nI i)), (0, .ref hw)] ∧ (i ≤ n) ∧ (∀ j, j < i → v j = 0) ∧ (∀ j, j < i → t j = 1) ∧ (∀ j, j < i → g j = 0) ∧ (∀ j, j < i → o j = 0)) (fun a => match a with | (i, v, t, g, o) => n - i) (0, vals, stp, reg, lo) ⟨hP.sub [0, 1, 2, 3, 4] rfl, hD.sub [0, 1, 2, 3, 4] (by decide) rfl, hS, lv_sub hl [0, 1] rfl, Nat.zero_le _, fun j h => absurd h (Nat.not_lt_zero j), fun j h => absurd h (Nat.not_lt_zero j), fun j h => absurd h (Nat.not_lt_zero j), fun j h => absurd h (Nat.not_lt_zero j)⟩ ?_
  intro a H locs ls hI ih2
  obtain ⟨i, v, t, g, o⟩ := a
  obtain ⟨hP, hD, hS, hl, hi, p1, p2, p3, p4⟩ := hI
  have hP : va_P E.1 classes [(hw, .inr (5, [.int (nI n), .ref hv, .ref hs, .ref hg, .ref ho])), (hv, .inl (E.2.2.1, n, .inr (.inl v))), (hs, .inl (E.2.1, n, .inl t)), (hg, .inl (E.2.1, n, .inl g)), (ho, .inl (E.2.2.2, n, .inl o))] H := hP
  have hD : va_D AM [(hw, .inr (5, [.int (nI n), .ref hv, .ref hs, .ref hg, .ref ho])), (hv, .inl (E.2.2.1, n, .inr (.inl v))), (hs, .inl (E.2.1, n, .inl t)), (hg, .inl (E.2.1, n, .inl g)), (ho, .inl (E.2.2.2, n, .inl o))] := hD
  have hl : lv_has ls 2 [(1, .int (nI i)), (0, .ref hw)] := hl
  have hi : i ≤ n := hi
  have p1 : ∀ j, j < i → v j = 0 := p1
  have p2 : ∀ j, j < i → t j = 1 := p2
  have p3 : ∀ j, j < i → g j = 0 := p3
  have p4 : ∀ j, j < i → o j = 0 := p4
  refine lv_iload_n hx hb dX5_reset_2 rfl (lv_at hl 0 rfl) ?_
  refine lv_aload_n hx hb dX5_reset_3 rfl (lv_at hl 1 rfl) ?_
  refine va_get (D := E.1) (ci := 5) (v := .int (nI n)) (C := RX5) (T := TX5) (N := 5) hx hb hts ux_X5' hown hK.1 hP 0 rfl rfl 0 (by decide) (hts _ (ta_cons _ mw_58)) (fun _ h9 => h9) rfl dX5_reset_4 ?_
  refine lv_icmp_ge (tgt := 44) hx hb dX5_reset_7 (by decide) (fun c_7 => ?_) (fun c_7 => ?_)
  · have c_7 : n ≤ i := (nI_leI (by omega) (by omega)).mp c_7
    have e9 : i = n := by omega
    rw [e9] at p1 p2 p3 p4
    obtain ⟨hP, hD⟩ := cg_l (g := fun _ => 0) hP hD 1 rfl (p1)
    have hP : va_P E.1 classes [(hw, .inr (5, [.int (nI n), .ref hv, .ref hs, .ref hg, .ref ho])), (hv, .inl (E.2.2.1, n, .inr (.inl (fun _ => 0)))), (hs, .inl (E.2.1, n, .inl t)), (hg, .inl (E.2.1, n, .inl g)), (ho, .inl (E.2.2.2, n, .inl o))] H := hP
    have hD : va_D AM [(hw, .inr (5, [.int (nI n), .ref hv, .ref hs, .ref hg, .ref ho])), (hv, .inl (E.2.2.1, n, .inr (.inl (fun _ => 0)))), (hs, .inl (E.2.1, n, .inl t)), (hg, .inl (E.2.1, n, .inl g)), (ho, .inl (E.2.2.2, n, .inl o))] := hD
    obtain ⟨hP, hD⟩ := cg_i (g := fun _ => 1) hP hD 2 rfl (p2)
    have hP : va_P E.1 classes [(hw, .inr (5, [.int (nI n), .ref hv, .ref hs, .ref hg, .ref ho])), (hv, .inl (E.2.2.1, n, .inr (.inl (fun _ => 0)))), (hs, .inl (E.2.1, n, .inl (fun _ => 1))), (hg, .inl (E.2.1, n, .inl g)), (ho, .inl (E.2.2.2, n, .inl o))] H := hP
    have hD : va_D AM [(hw, .inr (5, [.int (nI n), .ref hv, .ref hs, .ref hg, .ref ho])), (hv, .inl (E.2.2.1, n, .inr (.inl (fun _ => 0)))), (hs, .inl (E.2.1, n, .inl (fun _ => 1))), (hg, .inl (E.2.1, n, .inl g)), (ho, .inl (E.2.2.2, n, .inl o))] := hD
    obtain ⟨hP, hD⟩ := cg_i (g := fun _ => 0) hP hD 3 rfl (p3)
    have hP : va_P E.1 classes [(hw, .inr (5, [.int (nI n), .ref hv, .ref hs, .ref hg, .ref ho])), (hv, .inl (E.2.2.1, n, .inr (.inl (fun _ => 0)))), (hs, .inl (E.2.1, n, .inl (fun _ => 1))), (hg, .inl (E.2.1, n, .inl (fun _ => 0))), (ho, .inl (E.2.2.2, n, .inl o))] H := hP
    have hD : va_D AM [(hw, .inr (5, [.int (nI n), .ref hv, .ref hs, .ref hg, .ref ho])), (hv, .inl (E.2.2.1, n, .inr (.inl (fun _ => 0)))), (hs, .inl (E.2.1, n, .inl (fun _ => 1))), (hg, .inl (E.2.1, n, .inl (fun _ => 0))), (ho, .inl (E.2.2.2, n, .inl o))] := hD
    obtain ⟨hP, hD⟩ := cg_i (g := fun _ => 0) hP hD 4 rfl (p4)
    have hP : va_P E.1 classes [(hw, .inr (5, [.int (nI n), .ref hv, .ref hs, .ref hg, .ref ho])), (hv, .inl (E.2.2.1, n, .inr (.inl (fun _ => 0)))), (hs, .inl (E.2.1, n, .inl (fun _ => 1))), (hg, .inl (E.2.1, n, .inl (fun _ => 0))), (ho, .inl (E.2.2.2, n, .inl (fun _ => 0)))] H := hP
    have hD : va_D AM [(hw, .inr (5, [.int (nI n), .ref hv, .ref hs, .ref hg, .ref ho])), (hv, .inl (E.2.2.1, n, .inr (.inl (fun _ => 0)))), (hs, .inl (E.2.1, n, .inl (fun _ => 1))), (hg, .inl (E.2.1, n, .inl (fun _ => 0))), (ho, .inl (E.2.2.2, n, .inl (fun _ => 0)))] := hD
    exact Rv hx hb hr hlocks hP hD hS () [0, 1, 2, 3, 4] rfl rfl (trivial) (Nat.le_of_ble_eq_true rfl) (Nat.le_of_ble_eq_true rfl) dX5_reset_44
  · have c_7 : i < n := by
      rcases Nat.lt_or_ge i n with q | q
      · exact q
      · exact absurd ((nI_leI (by omega) (by omega)).mpr q) c_7
    refine lv_aload_n hx hb dX5_reset_10 rfl (lv_at hl 1 rfl) ?_
    refine va_get (D := E.1) (ci := 5) (v := .ref hv) (C := RX5) (T := TX5) (N := 5) hx hb hts ux_X5' hown hK.1 hP 0 rfl rfl 1 (by decide) (hts _ (ta_cons _ mw_62)) (fun _ h9 => h9) rfl dX5_reset_11 ?_
    refine lv_iload_n hx hb dX5_reset_14 rfl (lv_at hl 0 rfl) ?_
    refine lv_lconst (v := 0) hx hb dX5_reset_15 (by decide) ?_
    refine as_l i hx hb hK hP hD hS 1 rfl (by first | assumption | omega) (by omega) dX5_reset_16 (fun H locs hP hD hS => ?_)
    have hP : va_P E.1 classes [(hw, .inr (5, [.int (nI n), .ref hv, .ref hs, .ref hg, .ref ho])), (hv, .inl (E.2.2.1, n, .inr (.inl (vp_updL v i (0 : Int64))))), (hs, .inl (E.2.1, n, .inl t)), (hg, .inl (E.2.1, n, .inl g)), (ho, .inl (E.2.2.2, n, .inl o))] H := hP
    have hD : va_D AM [(hw, .inr (5, [.int (nI n), .ref hv, .ref hs, .ref hg, .ref ho])), (hv, .inl (E.2.2.1, n, .inr (.inl (vp_updL v i (0 : Int64))))), (hs, .inl (E.2.1, n, .inl t)), (hg, .inl (E.2.1, n, .inl g)), (ho, .inl (E.2.2.2, n, .inl o))] := hD
    refine lv_aload_n hx hb dX5_reset_17 rfl (lv_at hl 1 rfl) ?_
    refine va_get (D := E.1) (ci := 5) (v := .ref hs) (C := RX5) (T := TX5) (N := 5) hx hb hts ux_X5' hown hK.1 hP 0 rfl rfl 2 (by decide) (hts _ (ta_cons _ mw_65)) (fun _ h9 => h9) rfl dX5_reset_18 ?_
    refine lv_iload_n hx hb dX5_reset_21 rfl (lv_at hl 0 rfl) ?_
    refine lv_iconst (v := 1) hx hb dX5_reset_22 (by decide) ?_
    refine as_i i hx hb hK hP hD hS 2 rfl (by first | assumption | omega) (by omega) dX5_reset_23 (fun H locs hP hD hS => ?_)
    have hP : va_P E.1 classes [(hw, .inr (5, [.int (nI n), .ref hv, .ref hs, .ref hg, .ref ho])), (hv, .inl (E.2.2.1, n, .inr (.inl (vp_updL v i (0 : Int64))))), (hs, .inl (E.2.1, n, .inl (upd t i 1))), (hg, .inl (E.2.1, n, .inl g)), (ho, .inl (E.2.2.2, n, .inl o))] H := hP
    have hD : va_D AM [(hw, .inr (5, [.int (nI n), .ref hv, .ref hs, .ref hg, .ref ho])), (hv, .inl (E.2.2.1, n, .inr (.inl (vp_updL v i (0 : Int64))))), (hs, .inl (E.2.1, n, .inl (upd t i 1))), (hg, .inl (E.2.1, n, .inl g)), (ho, .inl (E.2.2.2, n, .inl o))] := hD
    refine lv_aload_n hx hb dX5_reset_24 rfl (lv_at hl 1 rfl) ?_
    refine va_get (D := E.1) (ci := 5) (v := .ref hg) (C := RX5) (T := TX5) (N := 5) hx hb hts ux_X5' hown hK.1 hP 0 rfl rfl 3 (by decide) (hts _ (ta_cons _ mw_68)) (fun _ h9 => h9) rfl dX5_reset_25 ?_
    refine lv_iload_n hx hb dX5_reset_28 rfl (lv_at hl 0 rfl) ?_
    refine lv_iconst (v := 0) hx hb dX5_reset_29 (by decide) ?_
    refine as_i i hx hb hK hP hD hS 3 rfl (by first | assumption | omega) (by omega) dX5_reset_30 (fun H locs hP hD hS => ?_)
    have hP : va_P E.1 classes [(hw, .inr (5, [.int (nI n), .ref hv, .ref hs, .ref hg, .ref ho])), (hv, .inl (E.2.2.1, n, .inr (.inl (vp_updL v i (0 : Int64))))), (hs, .inl (E.2.1, n, .inl (upd t i 1))), (hg, .inl (E.2.1, n, .inl (upd g i 0))), (ho, .inl (E.2.2.2, n, .inl o))] H := hP
    have hD : va_D AM [(hw, .inr (5, [.int (nI n), .ref hv, .ref hs, .ref hg, .ref ho])), (hv, .inl (E.2.2.1, n, .inr (.inl (vp_updL v i (0 : Int64))))), (hs, .inl (E.2.1, n, .inl (upd t i 1))), (hg, .inl (E.2.1, n, .inl (upd g i 0))), (ho, .inl (E.2.2.2, n, .inl o))] := hD
    refine lv_aload_n hx hb dX5_reset_31 rfl (lv_at hl 1 rfl) ?_
    refine va_get (D := E.1) (ci := 5) (v := .ref ho) (C := RX5) (T := TX5) (N := 5) hx hb hts ux_X5' hown hK.1 hP 0 rfl rfl 4 (by decide) (hts _ (ta_cons _ mw_71)) (fun _ h9 => h9) rfl dX5_reset_32 ?_
    refine lv_iload_n hx hb dX5_reset_35 rfl (lv_at hl 0 rfl) ?_
    refine lv_iconst (v := 0) hx hb dX5_reset_36 (by decide) ?_
    refine as_z i hx hb hK hP hD hS 4 rfl (by first | assumption | omega) (by omega) (Or.inl rfl) dX5_reset_37 (fun H locs hP hD hS => ?_)
    have hP : va_P E.1 classes [(hw, .inr (5, [.int (nI n), .ref hv, .ref hs, .ref hg, .ref ho])), (hv, .inl (E.2.2.1, n, .inr (.inl (vp_updL v i (0 : Int64))))), (hs, .inl (E.2.1, n, .inl (upd t i 1))), (hg, .inl (E.2.1, n, .inl (upd g i 0))), (ho, .inl (E.2.2.2, n, .inl (upd o i 0)))] H := hP
    have hD : va_D AM [(hw, .inr (5, [.int (nI n), .ref hv, .ref hs, .ref hg, .ref ho])), (hv, .inl (E.2.2.1, n, .inr (.inl (vp_updL v i (0 : Int64))))), (hs, .inl (E.2.1, n, .inl (upd t i 1))), (hg, .inl (E.2.1, n, .inl (upd g i 0))), (ho, .inl (E.2.2.2, n, .inl (upd o i 0)))] := hD
    refine lv_iinc (v := nI (i + 1)) (lv' := [(1, .int (nI (i + 1))), (0, .ref hw)]) hx hb dX5_reset_38 hl (k := 0) rfl (nI_1 i) (by decide) rfl (fun ls hl => ?_)
    refine lv_goto (tgt := 2) hx hb dX5_reset_41 (by decide) ?_
    exact ih2 (i + 1, vp_updL v i 0, upd t i 1, upd g i 0, upd o i 0) _ _ _ ⟨hP.sub [0, 1, 2, 3, 4] rfl, hD.sub [0, 1, 2, 3, 4] (by decide) rfl, hS, lv_sub hl [0, 1] rfl, c_7, fl_l p1, fl_i p2, fl_i p3, fl_i p4⟩ (by show n - (i + 1) < n - i; omega)

