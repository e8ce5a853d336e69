set_option maxHeartbeats 4000000 in
set_option maxRecDepth 100000 in
theorem c_madeAlone (l : Launch) (E : EE) (n : Nat) (hw : Nat) (hv : Nat) (hs : Nat) (hg : Nat) (ho : Nat) (vals : Nat → Int64) (stp : Nat → Int32) (reg : Nat → Int32) (lo : Nat → Int32) (k : Nat) (q : Nat) (hn : n < 2 ^ 31) (hk : k < n) (hq : q < 2 ^ 31) (hst : stp k = nI q) : Ml (S := Unit) l E yX5_madeAlone (.code yX5_madeAlone cX5_madeAlone 5 (some .long)) ({ frames := 2, cells := 0, slots := 0, locals := 46 }) [.ref hw, .int (nI k)] [(hw, .inr (5, [.int (nI n), .ref hv, .ref hs, .ref hg, .ref ho])), (hv, .inl (E.2.2.1, n, .inr (.inl vals))), (hs, .inl (E.2.1, n, .inl stp)), (hg, .inl (E.2.1, n, .inl reg)), (ho, .inl (E.2.2.2, n, .inl lo))] (fun (ans : Int64) (_ : Unit) => ans = stpF (vals k) q) (fun u : Unit => [(hw, .inr (5, [.int (nI n), .ref hv, .ref hs, .ref hg, .ref ho])), (hv, .inl (E.2.2.1, n, .inr (.inl vals))), (hs, .inl (E.2.1, n, .inl stp)), (hg, .inl (E.2.1, n, .inl reg)), (ho, .inl (E.2.2.2, n, .inl lo))]) := by
  refine Ml.ofW (by decide) (Nat.le_of_ble_eq_true rfl) ?_
  intro pM eM sM mM bM meM cM AM ls hB hA hP hD hS hl
  obtain ⟨hx, hb, hr, hml, hown, hlocks, hnm, hts, hK⟩ := hB
  have hl : lv_has ls 5 [(0, .ref hw), (1, .int (nI k))] := hl
  refine lv_aload_n hx hb dX5_madeAlone_0 rfl (lv_at hl 0 rfl) ?_
  refine va_get (D := E.1) (ci := 5) (v := .ref hv) (C := RX5) (T := TX5) (N := 5) hx hb hts ux_X5' hown hK.1 hP 0 rfl rfl 1 (by decide) (hts _ (ta_cons _ mw_62)) (fun _ h9 => h9) rfl dX5_madeAlone_1 ?_
  refine lv_iload_n hx hb dX5_madeAlone_4 rfl (lv_at hl 1 rfl) ?_
  refine ia_l k hx hb hK hP 1 rfl (by first | assumption | omega) (by omega) dX5_madeAlone_5 ?_
  refine lv_lstore_n (lv' := [(2, .long (vals k)), (0, .ref hw), (1, .int (nI k))]) hx hb dX5_madeAlone_6 rfl hl (by decide) rfl (fun ls hl => ?_)
  refine lv_iconst (v := 0) hx hb dX5_madeAlone_7 (by decide) ?_
  refine lv_istore (lv' := [(4, .int 0), (2, .long (vals k)), (0, .ref hw), (1, .int (nI k))]) hx hb dX5_madeAlone_8 hl (by decide) rfl (fun ls hl => ?_)
  refine W.loop (σ := (Nat) × (Int64)) (fun a H locs ls => match a with | (i, a) => va_P E.1 classes [(hw, .inr (5, [.int (nI n), .ref hv, .ref hs, .ref hg, .ref ho])), (hv, .inl (E.2.2.1, n, .inr (.inl vals))), (hs, .inl (E.2.1, n, .inl stp)), (hg, .inl (E.2.1, n, .inl reg)), (ho, .inl (E.2.2.2, n, .inl lo))] H ∧ va_D AM [(hw, .inr (5, [.int (nI n), .ref hv, .ref hs, .ref hg, .ref ho])), (hv, .inl (E.2.2.1, n, .inr (.inl vals))), (hs, .inl (E.2.1, n, .inl stp)), (hg, .inl (E.2.1, n, .inl reg)), (ho, .inl (E.2.2.2, n, .inl lo))] ∧ va_S AM sM.heap H locs ∧ lv_has ls 5 [(4, .int (nI i)), (2, .long a), (0, .ref hw), (1, .int (nI k))] ∧ (i ≤ q) ∧ (a = stpF (vals k) i)) (fun a => match a with | (i, a) => q - i) (0, vals k) ⟨hP.sub [0, 1, 2, 3, 4] rfl, hD.sub [0, 1, 2, 3, 4] (by decide) rfl, hS, lv_sub hl [0, 1, 2, 3] rfl, Nat.zero_le _, rfl⟩ ?_
  intro a H locs ls hI ih10
  obtain ⟨i, a⟩ := a
  obtain ⟨hP, hD, hS, hl, hi, ha⟩ := hI
  have hP : va_P E.1 classes [(hw, .inr (5, [.int (nI n), .ref hv, .ref hs, .ref hg, .ref ho])), (hv, .inl (E.2.2.1, n, .inr (.inl vals))), (hs, .inl (E.2.1, n, .inl stp)), (hg, .inl (E.2.1, n, .inl reg)), (ho, .inl (E.2.2.2, n, .inl lo))] H := hP
  have hD : va_D AM [(hw, .inr (5, [.int (nI n), .ref hv, .ref hs, .ref hg, .ref ho])), (hv, .inl (E.2.2.1, n, .inr (.inl vals))), (hs, .inl (E.2.1, n, .inl stp)), (hg, .inl (E.2.1, n, .inl reg)), (ho, .inl (E.2.2.2, n, .inl lo))] := hD
  have hl : lv_has ls 5 [(4, .int (nI i)), (2, .long a), (0, .ref hw), (1, .int (nI k))] := hl
  have hi : i ≤ q := hi
  have ha : a = stpF (vals k) i := ha
  refine lv_iload hx hb dX5_madeAlone_10 (lv_at hl 0 rfl) ?_
  refine lv_aload_n hx hb dX5_madeAlone_12 rfl (lv_at hl 2 rfl) ?_
  refine va_get (D := E.1) (ci := 5) (v := .ref hs) (C := RX5) (T := TX5) (N := 5) hx hb hts ux_X5' hown hK.1 hP 0 rfl rfl 2 (by decide) (hts _ (ta_cons _ mw_65)) (fun _ h9 => h9) rfl dX5_madeAlone_13 ?_
  refine lv_iload_n hx hb dX5_madeAlone_16 rfl (lv_at hl 3 rfl) ?_
  refine ia_i k hx hb hK hP 2 rfl (by first | assumption | omega) (by omega) dX5_madeAlone_17 ?_
  refine tp_i (y := nI q) (hst) ?_
  refine lv_icmp_ge (tgt := 40) hx hb dX5_madeAlone_18 (by decide) (fun c_18 => ?_) (fun c_18 => ?_)
  · have c_18 : q ≤ i := (nI_leI (by omega) (by omega)).mp c_18
    have e9 : i = q := by omega
    rw [e9] at ha
    refine lv_lload_n hx hb dX5_madeAlone_40 rfl (lv_at hl 1 rfl) ?_
    exact Rl hx hb hr hlocks hP hD hS () [0, 1, 2, 3, 4] rfl rfl (ha) (Nat.le_of_ble_eq_true rfl) (Nat.le_of_ble_eq_true rfl) dX5_madeAlone_41
  · have c_18 : i < q := by
      rcases Nat.lt_or_ge i q with q | q
      · exact q
      · exact absurd ((nI_leI (by omega) (by omega)).mpr q) c_18
    refine lv_lload_n hx hb dX5_madeAlone_21 rfl (lv_at hl 1 rfl) ?_
    refine lv_aload_n hx hb dX5_madeAlone_22 rfl (lv_at hl 2 rfl) ?_
    refine va_get (D := E.1) (ci := 5) (v := .ref hv) (C := RX5) (T := TX5) (N := 5) hx hb hts ux_X5' hown hK.1 hP 0 rfl rfl 1 (by decide) (hts _ (ta_cons _ mw_62)) (fun _ h9 => h9) rfl dX5_madeAlone_23 ?_
    refine lv_iload_n hx hb dX5_madeAlone_26 rfl (lv_at hl 3 rfl) ?_
    refine ia_l k hx hb hK hP 1 rfl (by first | assumption | omega) (by omega) dX5_madeAlone_27 ?_
    refine lv_iload hx hb dX5_madeAlone_28 (lv_at hl 0 rfl) ?_
    refine af_l (wc := []) (wr := [(hw, .inr (5, [.int (nI n), .ref hv, .ref hs, .ref hg, .ref ho])), (hv, .inl (E.2.2.1, n, .inr (.inl vals))), (hs, .inl (E.2.1, n, .inl stp)), (hg, .inl (E.2.1, n, .inl reg)), (ho, .inl (E.2.2.2, n, .inl lo))]) (rn_N (host := RX6) (As := [.long a, .long (vals k), .int (nI i)]) (rest := []) (n := 3) ⟨hx, hb, hml, hown, hts⟩ ta_cons wq_X5_31 hK.2.2 (by decide +kernel) hK (c_mkst l E a (vals k) (nI i)  _) ⟨Nat.le_of_ble_eq_true rfl, Nat.le_of_ble_eq_true rfl⟩ hP hD [] rfl rfl rfl hl.1 rfl (Nat.le_of_ble_eq_true rfl) dX5_madeAlone_30 ⟨Nat.le_of_ble_eq_true rfl, Nat.le_of_ble_eq_true rfl⟩) hP hD hS hA [] [0, 1, 2, 3, 4] rfl rfl rfl (by decide) (fun r_30 u_30 H locs hwC hP hD hS => ?_)
    subst hwC
    have hP : va_P E.1 classes [(hw, .inr (5, [.int (nI n), .ref hv, .ref hs, .ref hg, .ref ho])), (hv, .inl (E.2.2.1, n, .inr (.inl vals))), (hs, .inl (E.2.1, n, .inl stp)), (hg, .inl (E.2.1, n, .inl reg)), (ho, .inl (E.2.2.2, n, .inl lo))] H := hP
    have hD : va_D AM [(hw, .inr (5, [.int (nI n), .ref hv, .ref hs, .ref hg, .ref ho])), (hv, .inl (E.2.2.1, n, .inr (.inl vals))), (hs, .inl (E.2.1, n, .inl stp)), (hg, .inl (E.2.1, n, .inl reg)), (ho, .inl (E.2.2.2, n, .inl lo))] := hD
    refine lv_lstore_n (lv' := [(2, .long (mkst a (vals k) (nI i))), (4, .int (nI i)), (0, .ref hw), (1, .int (nI k))]) hx hb dX5_madeAlone_33 rfl hl (by decide) rfl (fun ls hl => ?_)
    refine lv_iinc (v := nI (i + 1)) (lv' := [(4, .int (nI (i + 1))), (2, .long (mkst a (vals k) (nI i))), (0, .ref hw), (1, .int (nI k))]) hx hb dX5_madeAlone_34 hl (k := 1) rfl (nI_1 i) (by decide) rfl (fun ls hl => ?_)
    refine lv_goto (tgt := 10) hx hb dX5_madeAlone_37 (by decide) ?_
    exact ih10 (i + 1, mkst a (vals k) (nI i)) _ _ _ ⟨hP.sub [0, 1, 2, 3, 4] rfl, hD.sub [0, 1, 2, 3, 4] (by decide) rfl, hS, lv_sub hl [0, 1, 2, 3] rfl, c_18, by rw [ha]; rfl⟩ (by show q - (i + 1) < q - i; omega)

set_option maxHeartbeats 4000000 in
set_option maxRecDepth 100000 in
theorem c_place_old (l : Launch) (E : EE) (n : Nat) (hgr : Nat) (hbo : Nat) (hrg : Nat) (c : Nat) (b : Nat) (rg : Nat → Int32) (t : Int32) (hn : n < 2 ^ 31) (hc : c ≤ n) (hbc : b < c) (g1 : ∀ j, j < b → ¬ rg j &&& t = 0) (g2 : rg b &&& t = 0) : Mi (S := Unit) l E yX0_place (.code yX0_place cX0_place 3 (some .int)) ({ frames := 0, cells := 0, slots := 0, locals := 0 }) [.ref hgr, .int t] [(hgr, .inr (0, [.ref hbo, .int (nI c), .ref hrg])), (hrg, .inl (E.2.1, n, .inl rg))] (fun (ans : Int32) (_ : Unit) => ans = nI b) (fun u : Unit => [(hgr, .inr (0, [.ref hbo, .int (nI c), .ref hrg])), (hrg, .inl (E.2.1, n, .inl (upd rg b (rg b ||| t))))]) := by
  refine Mi.ofW (by decide) (Nat.le_of_ble_eq_true rfl) ?_
  intro pM eM sM mM bM meM cM AM ls hB hA hP hD hS hl
  obtain ⟨hx, hb, hr, hml, hown, hlocks, hnm, hts, hK⟩ := hB
  have hl : lv_has ls 3 [(0, .ref hgr), (1, .int t)] := hl
  refine lv_iconst (v := 0) hx hb dX0_place_0 (by decide) ?_
  refine lv_istore_n (lv' := [(2, .int 0), (0, .ref hgr), (1, .int t)]) hx hb dX0_place_1 rfl hl (by decide) rfl (fun ls hl => ?_)
  refine W.loop (σ := (Nat)) (fun a H locs ls => match a with | i => va_P E.1 classes [(hgr, .inr (0, [.ref hbo, .int (nI c), .ref hrg])), (hrg, .inl (E.2.1, n, .inl rg))] H ∧ va_D AM [(hgr, .inr (0, [.ref hbo, .int (nI c), .ref hrg])), (hrg, .inl (E.2.1, n, .inl rg))] ∧ va_S AM sM.heap H locs ∧ lv_has ls 3 [(2, .int (nI i)), (0, .ref hgr), (1, .int t)] ∧ (i ≤ b)) (fun a => match a with | i => c - i) (0) ⟨hP.sub [0, 1] rfl, hD.sub [0, 1] (by decide) rfl, hS, lv_sub hl [0, 1, 2] rfl, Nat.zero_le _⟩ ?_
  intro a H locs ls hI ih2
  obtain ⟨i, rfl⟩ : ∃ z, z = a := ⟨_, rfl⟩
  obtain ⟨hP, hD, hS, hl, hi⟩ := hI
  have hP : va_P E.1 classes [(hgr, .inr (0, [.ref hbo, .int (nI c), .ref hrg])), (hrg, .inl (E.2.1, n, .inl rg))] H := hP
  have hD : va_D AM [(hgr, .inr (0, [.ref hbo, .int (nI c), .ref hrg])), (hrg, .inl (E.2.1, n, .inl rg))] := hD
  have hl : lv_has ls 3 [(2, .int (nI i)), (0, .ref hgr), (1, .int t)] := hl
  have hi : i ≤ b := hi
  refine lv_iload_n hx hb dX0_place_2 rfl (lv_at hl 0 rfl) ?_
  refine lv_aload_n hx hb dX0_place_3 rfl (lv_at hl 1 rfl) ?_
  refine va_get (D := E.1) (ci := 0) (v := .int (nI c)) (C := RX0) (T := TX0) (N := 3) hx hb hts ux_X0' hown hK.1 hP 0 rfl rfl 1 (by decide) (hts _ (ta_cons _ mw_98)) (fun _ h9 => h9) rfl dX0_place_4 ?_
  refine lv_icmp_ge (tgt := 27) hx hb dX0_place_7 (by decide) (fun c_7 => ?_) (fun c_7 => ?_)
  · have c_7 : c ≤ i := (nI_leI (by omega) (by omega)).mp c_7
    exact absurd c_7 (by omega)
  · have c_7 : i < c := by
      rcases Nat.lt_or_ge i c with q | q
      · exact q
      · exact absurd ((nI_leI (by omega) (by omega)).mpr q) c_7
    refine lv_aload_n hx hb dX0_place_10 rfl (lv_at hl 1 rfl) ?_
    refine va_get (D := E.1) (ci := 0) (v := .ref hrg) (C := RX0) (T := TX0) (N := 3) hx hb hts ux_X0' hown hK.1 hP 0 rfl rfl 2 (by decide) (hts _ (ta_cons _ mw_101)) (fun _ h9 => h9) rfl dX0_place_11 ?_
    refine lv_iload_n hx hb dX0_place_14 rfl (lv_at hl 0 rfl) ?_
    refine ia_i i hx hb hK hP 1 rfl (by first | assumption | omega) (by omega) dX0_place_15 ?_
    refine lv_iload_n hx hb dX0_place_16 rfl (lv_at hl 2 rfl) ?_
    refine lv_iand hx hb dX0_place_17 ?_
    refine lv_if_eq (tgt := 27) hx hb dX0_place_18 (by decide) (fun c_18 => ?_) (fun c_18 => ?_)
    · have e9 : i = b := by
        rcases Nat.lt_or_ge i b with q | q
        · exact absurd c_18 (g1 i q)
        · omega
      rw [e9] at hl
      refine lv_iload_n hx hb dX0_place_27 rfl (lv_at hl 0 rfl) ?_
      refine lv_aload_n hx hb dX0_place_28 rfl (lv_at hl 1 rfl) ?_
      refine va_get (D := E.1) (ci := 0) (v := .int (nI c)) (C := RX0) (T := TX0) (N := 3) hx hb hts ux_X0' hown hK.1 hP 0 rfl rfl 1 (by decide) (hts _ (ta_cons _ mw_98)) (fun _ h9 => h9) rfl dX0_place_29 ?_
      refine lv_icmp_ne (tgt := 52) hx hb dX0_place_32 (by decide) (fun c_32 => ?_) (fun c_32 => ?_)
      · refine lv_aload_n hx hb dX0_place_52 rfl (lv_at hl 1 rfl) ?_
        refine va_get (D := E.1) (ci := 0) (v := .ref hrg) (C := RX0) (T := TX0) (N := 3) hx hb hts ux_X0' hown hK.1 hP 0 rfl rfl 2 (by decide) (hts _ (ta_cons _ mw_101)) (fun _ h9 => h9) rfl dX0_place_53 ?_
        refine lv_iload_n hx hb dX0_place_56 rfl (lv_at hl 0 rfl) ?_
        refine lv_dup2_11 hx hb dX0_place_57 rfl rfl ?_
        refine ia_i b hx hb hK hP 1 rfl (by first | assumption | omega) (by omega) dX0_place_58 ?_
        refine lv_iload_n hx hb dX0_place_59 rfl (lv_at hl 2 rfl) ?_
        refine lv_ior hx hb dX0_place_60 ?_
        refine as_i b hx hb hK hP hD hS 1 rfl (by first | assumption | omega) (by omega) dX0_place_61 (fun H locs hP hD hS => ?_)
        have hP : va_P E.1 classes [(hgr, .inr (0, [.ref hbo, .int (nI c), .ref hrg])), (hrg, .inl (E.2.1, n, .inl (upd rg b ((rg b) ||| t))))] H := hP
        have hD : va_D AM [(hgr, .inr (0, [.ref hbo, .int (nI c), .ref hrg])), (hrg, .inl (E.2.1, n, .inl (upd rg b ((rg b) ||| t))))] := hD
        refine lv_iload_n hx hb dX0_place_62 rfl (lv_at hl 0 rfl) ?_
        exact Ri hx hb hr hlocks hP hD hS () [0, 1] rfl rfl (rfl) (Nat.le_of_ble_eq_true rfl) (Nat.le_of_ble_eq_true rfl) dX0_place_63
      · exact absurd ((nI_eq (by omega) (by omega)).mp c_32) (by omega)
    · have e9 : i ≠ b := fun h => c_18 (by rw [h]; exact g2)
      refine lv_iinc (v := nI (i + 1)) (lv' := [(2, .int (nI (i + 1))), (0, .ref hgr), (1, .int t)]) hx hb dX0_place_21 hl (k := 0) rfl (nI_1 i) (by decide) rfl (fun ls hl => ?_)
      refine lv_goto (tgt := 2) hx hb dX0_place_24 (by decide) ?_
      exact ih2 (i + 1) _ _ _ ⟨hP.sub [0, 1] rfl, hD.sub [0, 1] (by decide) rfl, hS, lv_sub hl [0, 1, 2] rfl, by omega⟩ (by show c - (i + 1) < c - i; omega)

set_option maxHeartbeats 4000000 in
set_option maxRecDepth 100000 in
theorem c_place_new (l : Launch) (E : EE) (n : Nat) (hgr : Nat) (hbo : Nat) (hrg : Nat) (c : Nat) (rg : Nat → Int32) (t : Int32) (hn : n < 2 ^ 31) (hc : c < n) (g1 : ∀ j, j < c → ¬ rg j &&& t = 0) : Mi (S := Unit) l E yX0_place (.code yX0_place cX0_place 3 (some .int)) ({ frames := 0, cells := 0, slots := 0, locals := 0 }) [.ref hgr, .int t] [(hgr, .inr (0, [.ref hbo, .int (nI c), .ref hrg])), (hrg, .inl (E.2.1, n, .inl rg))] (fun (ans : Int32) (_ : Unit) => ans = nI c) (fun u : Unit => [(hgr, .inr (0, [.ref hbo, .int (nI (c + 1)), .ref hrg])), (hrg, .inl (E.2.1, n, .inl (upd rg c t)))]) := by
  refine Mi.ofW (by decide) (Nat.le_of_ble_eq_true rfl) ?_
  intro pM eM sM mM bM meM cM AM ls hB hA hP hD hS hl
  obtain ⟨hx, hb, hr, hml, hown, hlocks, hnm, hts, hK⟩ := hB
  have hl : lv_has ls 3 [(0, .ref hgr), (1, .int t)] := hl
  refine lv_iconst (v := 0) hx hb dX0_place_0 (by decide) ?_
  refine lv_istore_n (lv' := [(2, .int 0), (0, .ref hgr), (1, .int t)]) hx hb dX0_place_1 rfl hl (by decide) rfl (fun ls hl => ?_)
  refine W.loop (σ := (Nat)) (fun a H locs ls => match a with | i => va_P E.1 classes [(hgr, .inr (0, [.ref hbo, .int (nI c), .ref hrg])), (hrg, .inl (E.2.1, n, .inl rg))] H ∧ va_D AM [(hgr, .inr (0, [.ref hbo, .int (nI c), .ref hrg])), (hrg, .inl (E.2.1, n, .inl rg))] ∧ va_S AM sM.heap H locs ∧ lv_has ls 3 [(2, .int (nI i)), (0, .ref hgr), (1, .int t)] ∧ (i ≤ c)) (fun a => match a with | i => c - i) (0) ⟨hP.sub [0, 1] rfl, hD.sub [0, 1] (by decide) rfl, hS, lv_sub hl [0, 1, 2] rfl, Nat.zero_le _⟩ ?_
  intro a H locs ls hI ih2
  obtain ⟨i, rfl⟩ : ∃ z, z = a := ⟨_, rfl⟩
  obtain ⟨hP, hD, hS, hl, hi⟩ := hI
  have hP : va_P E.1 classes [(hgr, .inr (0, [.ref hbo, .int (nI c), .ref hrg])), (hrg, .inl (E.2.1, n, .inl rg))] H := hP
  have hD : va_D AM [(hgr, .inr (0, [.ref hbo, .int (nI c), .ref hrg])), (hrg, .inl (E.2.1, n, .inl rg))] := hD
  have hl : lv_has ls 3 [(2, .int (nI i)), (0, .ref hgr), (1, .int t)] := hl
  have hi : i ≤ c := hi
  refine lv_iload_n hx hb dX0_place_2 rfl (lv_at hl 0 rfl) ?_
  refine lv_aload_n hx hb dX0_place_3 rfl (lv_at hl 1 rfl) ?_
  refine va_get (D := E.1) (ci := 0) (v := .int (nI c)) (C := RX0) (T := TX0) (N := 3) hx hb hts ux_X0' hown hK.1 hP 0 rfl rfl 1 (by decide) (hts _ (ta_cons _ mw_98)) (fun _ h9 => h9) rfl dX0_place_4 ?_
  refine lv_icmp_ge (tgt := 27) hx hb dX0_place_7 (by decide) (fun c_7 => ?_) (fun c_7 => ?_)
  · have c_7 : c ≤ i := (nI_leI (by omega) (by omega)).mp c_7
    have e9 : i = c := by omega
    rw [e9] at hl
    refine lv_iload_n hx hb dX0_place_27 rfl (lv_at hl 0 rfl) ?_
    refine lv_aload_n hx hb dX0_place_28 rfl (lv_at hl 1 rfl) ?_
    refine va_get (D := E.1) (ci := 0) (v := .int (nI c)) (C := RX0) (T := TX0) (N := 3) hx hb hts ux_X0' hown hK.1 hP 0 rfl rfl 1 (by decide) (hts _ (ta_cons _ mw_98)) (fun _ h9 => h9) rfl dX0_place_29 ?_
    refine lv_icmp_ne (tgt := 52) hx hb dX0_place_32 (by decide) (fun c_32 => ?_) (fun c_32 => ?_)
    · exact absurd rfl c_32
    · refine lv_aload_n hx hb dX0_place_35 rfl (lv_at hl 1 rfl) ?_
      refine va_get (D := E.1) (ci := 0) (v := .ref hrg) (C := RX0) (T := TX0) (N := 3) hx hb hts ux_X0' hown hK.1 hP 0 rfl rfl 2 (by decide) (hts _ (ta_cons _ mw_101)) (fun _ h9 => h9) rfl dX0_place_36 ?_
      refine lv_iload_n hx hb dX0_place_39 rfl (lv_at hl 0 rfl) ?_
      refine lv_iconst (v := 0) hx hb dX0_place_40 (by decide) ?_
      refine as_i c hx hb hK hP hD hS 1 rfl (by first | assumption | omega) (by omega) dX0_place_41 (fun H locs hP hD hS => ?_)
      have hP : va_P E.1 classes [(hgr, .inr (0, [.ref hbo, .int (nI c), .ref hrg])), (hrg, .inl (E.2.1, n, .inl (upd rg c 0)))] H := hP
      have hD : va_D AM [(hgr, .inr (0, [.ref hbo, .int (nI c), .ref hrg])), (hrg, .inl (E.2.1, n, .inl (upd rg c 0)))] := hD
      refine lv_aload_n hx hb dX0_place_42 rfl (lv_at hl 1 rfl) ?_
      refine lv_dup hx hb dX0_place_43 rfl ?_
      refine va_get (D := E.1) (ci := 0) (v := .int (nI c)) (C := RX0) (T := TX0) (N := 3) hx hb hts ux_X0' hown hK.1 hP 0 rfl rfl 1 (by decide) (hts _ (ta_cons _ mw_98)) (fun _ h9 => h9) rfl dX0_place_44 ?_
      refine lv_iconst (v := 1) hx hb dX0_place_47 (by decide) ?_
      refine lv_iadd hx hb dX0_place_48 ?_
      refine tp_i (y := nI (c + 1)) (nI_1 c) ?_
      refine va_put (D := E.1) (ci := 0) (v := .int (nI (c + 1))) (ty := .int) (C := RX0) (T := TX0) (N := 3) hx hb hts ux_X0' tyX0 tyX0_ok nmX0 hown hK.1 hP hD hS 0 rfl rfl 1 (by decide) (hts _ (ta_cons _ mw_98)) (fun _ h9 => h9) rfl (by decide +kernel) rfl rfl (Nat.le_of_ble_eq_true rfl) dX0_place_49 (fun H locs hP hD hS => ?_)
      have hP : va_P E.1 classes [(hgr, .inr (0, [.ref hbo, .int (nI (c + 1)), .ref hrg])), (hrg, .inl (E.2.1, n, .inl (upd rg c 0)))] H := hP
      have hD : va_D AM [(hgr, .inr (0, [.ref hbo, .int (nI (c + 1)), .ref hrg])), (hrg, .inl (E.2.1, n, .inl (upd rg c 0)))] := hD
      refine lv_aload_n hx hb dX0_place_52 rfl (lv_at hl 1 rfl) ?_
      refine va_get (D := E.1) (ci := 0) (v := .ref hrg) (C := RX0) (T := TX0) (N := 3) hx hb hts ux_X0' hown hK.1 hP 0 rfl rfl 2 (by decide) (hts _ (ta_cons _ mw_101)) (fun _ h9 => h9) rfl dX0_place_53 ?_
      refine lv_iload_n hx hb dX0_place_56 rfl (lv_at hl 0 rfl) ?_
      refine lv_dup2_11 hx hb dX0_place_57 rfl rfl ?_
      refine ia_i c hx hb hK hP 1 rfl (by first | assumption | omega) (by omega) dX0_place_58 ?_
      refine lv_iload_n hx hb dX0_place_59 rfl (lv_at hl 2 rfl) ?_
      refine lv_ior hx hb dX0_place_60 ?_
      refine as_i c hx hb hK hP hD hS 1 rfl (by first | assumption | omega) (by omega) dX0_place_61 (fun H locs hP hD hS => ?_)
      have hP : va_P E.1 classes [(hgr, .inr (0, [.ref hbo, .int (nI (c + 1)), .ref hrg])), (hrg, .inl (E.2.1, n, .inl (upd (upd rg c 0) c (((upd rg c 0) c) ||| t))))] H := hP
      have hD : va_D AM [(hgr, .inr (0, [.ref hbo, .int (nI (c + 1)), .ref hrg])), (hrg, .inl (E.2.1, n, .inl (upd (upd rg c 0) c (((upd rg c 0) c) ||| t))))] := hD
      refine lv_iload_n hx hb dX0_place_62 rfl (lv_at hl 0 rfl) ?_
      obtain ⟨hP, hD⟩ := cg_i (g := upd rg c t) hP hD 1 rfl (fun j hj => by
          unfold upd
          by_cases q : j = c
          · simp [q]
          · simp [q])
      have hP : va_P E.1 classes [(hgr, .inr (0, [.ref hbo, .int (nI (c + 1)), .ref hrg])), (hrg, .inl (E.2.1, n, .inl (upd rg c t)))] H := hP
      have hD : va_D AM [(hgr, .inr (0, [.ref hbo, .int (nI (c + 1)), .ref hrg])), (hrg, .inl (E.2.1, n, .inl (upd rg c t)))] := hD
      exact Ri hx hb hr hlocks hP hD hS () [0, 1] rfl rfl (rfl) (Nat.le_of_ble_eq_true rfl) (Nat.le_of_ble_eq_true rfl) dX0_place_63
  · have c_7 : i < c := by
      rcases Nat.lt_or_ge i c with q | q
      · exact q
      · exact absurd ((nI_leI (by omega) (by omega)).mpr q) c_7
    refine lv_aload_n hx hb dX0_place_10 rfl (lv_at hl 1 rfl) ?_
    refine va_get (D := E.1) (ci := 0) (v := .ref hrg) (C := RX0) (T := TX0) (N := 3) hx hb hts ux_X0' hown hK.1 hP 0 rfl rfl 2 (by decide) (hts _ (ta_cons _ mw_101)) (fun _ h9 => h9) rfl dX0_place_11 ?_
    refine lv_iload_n hx hb dX0_place_14 rfl (lv_at hl 0 rfl) ?_
    refine ia_i i hx hb hK hP 1 rfl (by first | assumption | omega) (by omega) dX0_place_15 ?_
    refine lv_iload_n hx hb dX0_place_16 rfl (lv_at hl 2 rfl) ?_
    refine lv_iand hx hb dX0_place_17 ?_
    refine lv_if_eq (tgt := 27) hx hb dX0_place_18 (by decide) (fun c_18 => ?_) (fun c_18 => ?_)
    · exact absurd c_18 (g1 i c_7)
    · refine lv_iinc (v := nI (i + 1)) (lv' := [(2, .int (nI (i + 1))), (0, .ref hgr), (1, .int t)]) hx hb dX0_place_21 hl (k := 0) rfl (nI_1 i) (by decide) rfl (fun ls hl => ?_)
      refine lv_goto (tgt := 2) hx hb dX0_place_24 (by decide) ?_
      exact ih2 (i + 1) _ _ _ ⟨hP.sub [0, 1] rfl, hD.sub [0, 1] (by decide) rfl, hS, lv_sub hl [0, 1, 2] rfl, by omega⟩ (by show c - (i + 1) < c - i; omega)

set_option maxHeartbeats 4000000 in
set_option maxRecDepth 100000 in
theorem c_form (l : Launch) (E : EE) (n : Nat) (hw : Nat) (hv : Nat) (hs : Nat) (hg : Nat) (ho : Nat) (vals : Nat → Int64) (stp : Nat → Int32) (reg : Nat → Int32) (lo : Nat → Int32) (hgr : Nat) (hbo : Nat) (hrg : Nat) (bo : Nat → Int32) (rg : Nat → Int32) (cnt : Int32) (hn : n < 2 ^ 31) : Mv (S := (Nat → Int32) × (Nat → Int32) × Nat) l E yX0_form (.code yX0_form cX0_form 3 none) ({ frames := 1, cells := 0, slots := 0, locals := 22 }) [.ref hgr, .ref hw] [(hgr, .inr (0, [.ref hbo, .int cnt, .ref hrg])), (hbo, .inl (E.2.1, n, .inl bo)), (hrg, .inl (E.2.1, n, .inl rg)), (hw, .inr (5, [.int (nI n), .ref hv, .ref hs, .ref hg, .ref ho])), (hv, .inl (E.2.2.1, n, .inr (.inl vals))), (hs, .inl (E.2.1, n, .inl stp)), (hg, .inl (E.2.1, n, .inl reg)), (ho, .inl (E.2.2.2, n, .inl lo))] (fun u : (Nat → Int32) × (Nat → Int32) × Nat => IsBat n lo reg u.1 ∧ IsCnt n u.1 u.2.2 ∧ u.2.2 ≤ n) (fun u : (Nat → Int32) × (Nat → Int32) × Nat => [(hgr, .inr (0, [.ref hbo, .int (nI u.2.2), .ref hrg])), (hbo, .inl (E.2.1, n, .inl u.1)), (hrg, .inl (E.2.1, n, .inl u.2.1)), (hw, .inr (5, [.int (nI n), .ref hv, .ref hs, .ref hg, .ref ho])), (hv, .inl (E.2.2.1, n, .inr (.inl vals))), (hs, .inl (E.2.1, n, .inl stp)), (hg, .inl (E.2.1, n, .inl reg)), (ho, .inl (E.2.2.2, n, .inl lo))]) := by
  refine Mv.ofW (by decide) (Nat.le_of_ble_eq_true rfl) ?_
  intro pM eM sM mM bM meM cM AM ls hB hA hP hD hS hl
  obtain ⟨hx, hb, hr, hml, hown, hlocks, hnm, hts, hK⟩ := hB
  have hl : lv_has ls 3 [(0, .ref hgr), (1, .ref hw)] := hl
  refine lv_aload_n hx hb dX0_form_0 rfl (lv_at hl 0 rfl) ?_
  refine lv_iconst (v := 0) hx hb dX0_form_1 (by decide) ?_
  refine va_put (D := E.1) (ci := 0) (v := .int 0) (ty := .int) (C := RX0) (T := TX0) (N := 3) hx hb hts ux_X0' tyX0 tyX0_ok nmX0 hown hK.1 hP hD hS 0 rfl rfl 1 (by decide) (hts _ (ta_cons _ mw_98)) (fun _ h9 => h9) rfl (by decide +kernel) rfl rfl (Nat.le_of_ble_eq_true rfl) dX0_form_2 (fun H locs hP hD hS => ?_)
  have hP : va_P E.1 classes [(hgr, .inr (0, [.ref hbo, .int 0, .ref hrg])), (hbo, .inl (E.2.1, n, .inl bo)), (hrg, .inl (E.2.1, n, .inl rg)), (hw, .inr (5, [.int (nI n), .ref hv, .ref hs, .ref hg, .ref ho])), (hv, .inl (E.2.2.1, n, .inr (.inl vals))), (hs, .inl (E.2.1, n, .inl stp)), (hg, .inl (E.2.1, n, .inl reg)), (ho, .inl (E.2.2.2, n, .inl lo))] H := hP
  have hD : va_D AM [(hgr, .inr (0, [.ref hbo, .int 0, .ref hrg])), (hbo, .inl (E.2.1, n, .inl bo)), (hrg, .inl (E.2.1, n, .inl rg)), (hw, .inr (5, [.int (nI n), .ref hv, .ref hs, .ref hg, .ref ho])), (hv, .inl (E.2.2.1, n, .inr (.inl vals))), (hs, .inl (E.2.1, n, .inl stp)), (hg, .inl (E.2.1, n, .inl reg)), (ho, .inl (E.2.2.2, n, .inl lo))] := hD
  refine lv_iconst (v := 0) hx hb dX0_form_5 (by decide) ?_
  refine lv_istore_n (lv' := [(2, .int 0), (0, .ref hgr), (1, .ref hw)]) hx hb dX0_form_6 rfl hl (by decide) rfl (fun ls hl => ?_)
  refine W.loop (σ := (Nat) × (Nat) × (Nat → Int32) × (Nat → Int32)) (fun a H locs ls => match a with | (i, c, o, g) => va_P E.1 classes [(hgr, .inr (0, [.ref hbo, .int (nI c), .ref hrg])), (hbo, .inl (E.2.1, n, .inl o)), (hrg, .inl (E.2.1, n, .inl g)), (hw, .inr (5, [.int (nI n), .ref hv, .ref hs, .ref hg, .ref ho])), (hv, .inl (E.2.2.1, n, .inr (.inl vals))), (hs, .inl (E.2.1, n, .inl stp)), (hg, .inl (E.2.1, n, .inl reg)), (ho, .inl (E.2.2.2, n, .inl lo))] H ∧ va_D AM [(hgr, .inr (0, [.ref hbo, .int (nI c), .ref hrg])), (hbo, .inl (E.2.1, n, .inl o)), (hrg, .inl (E.2.1, n, .inl g)), (hw, .inr (5, [.int (nI n), .ref hv, .ref hs, .ref hg, .ref ho])), (hv, .inl (E.2.2.1, n, .inr (.inl vals))), (hs, .inl (E.2.1, n, .inl stp)), (hg, .inl (E.2.1, n, .inl reg)), (ho, .inl (E.2.2.2, n, .inl lo))] ∧ va_S AM sM.heap H locs ∧ lv_has ls 3 [(2, .int (nI i)), (0, .ref hgr), (1, .ref hw)] ∧ (i ≤ n) ∧ (c ≤ i) ∧ (IsBat i lo reg o) ∧ (IsCnt i o c) ∧ (RgOk i c o reg g)) (fun a => match a with | (i, c, o, g) => n - i) (0, 0, bo, rg) ⟨hP.sub [0, 1, 2, 3, 4, 5, 6, 7] rfl, hD.sub [0, 1, 2, 3, 4, 5, 6, 7] (by decide) rfl, hS, lv_sub hl [0, 1, 2] rfl, Nat.zero_le _, Nat.le_refl _, bat_0, cnt_0, rg_0⟩ ?_
  intro a H locs ls hI ih7
  obtain ⟨i, c, o, g⟩ := a
  obtain ⟨hP, hD, hS, hl, hi, hc, h1, h2, h4⟩ := hI
  have hP : va_P E.1 classes [(hgr, .inr (0, [.ref hbo, .int (nI c), .ref hrg])), (hbo, .inl (E.2.1, n, .inl o)), (hrg, .inl (E.2.1, n, .inl g)), (hw, .inr (5, [.int (nI n), .ref hv, .ref hs, .ref hg, .ref ho])), (hv, .inl (E.2.2.1, n, .inr (.inl vals))), (hs, .inl (E.2.1, n, .inl stp)), (hg, .inl (E.2.1, n, .inl reg)), (ho, .inl (E.2.2.2, n, .inl lo))] H := hP
  have hD : va_D AM [(hgr, .inr (0, [.ref hbo, .int (nI c), .ref hrg])), (hbo, .inl (E.2.1, n, .inl o)), (hrg, .inl (E.2.1, n, .inl g)), (hw, .inr (5, [.int (nI n), .ref hv, .ref hs, .ref hg, .ref ho])), (hv, .inl (E.2.2.1, n, .inr (.inl vals))), (hs, .inl (E.2.1, n, .inl stp)), (hg, .inl (E.2.1, n, .inl reg)), (ho, .inl (E.2.2.2, n, .inl lo))] := hD
  have hl : lv_has ls 3 [(2, .int (nI i)), (0, .ref hgr), (1, .ref hw)] := hl
  have hi : i ≤ n := hi
  have hc : c ≤ i := hc
  have h1 : IsBat i lo reg o := h1
  have h2 : IsCnt i o c := h2
  have h4 : RgOk i c o reg g := h4
  refine lv_iload_n hx hb dX0_form_7 rfl (lv_at hl 0 rfl) ?_
  refine lv_aload_n hx hb dX0_form_8 rfl (lv_at hl 2 rfl) ?_
  refine va_get (D := E.1) (ci := 5) (v := .int (nI n)) (C := RX5) (T := TX5) (N := 5) hx hb hts ux_X5' hown hK.1 hP 3 rfl rfl 0 (by decide) (hts _ (ta_cons _ mw_60)) (fun _ h9 => h9) rfl dX0_form_9 ?_
  refine lv_icmp_ge (tgt := 50) hx hb dX0_form_12 (by decide) (fun c_12 => ?_) (fun c_12 => ?_)
  · have c_12 : n ≤ i := (nI_leI (by omega) (by omega)).mp c_12
    have e9 : i = n := by omega
    rw [e9] at h1 h2 h4
    exact Rv hx hb hr hlocks hP hD hS (o, g, c) [0, 1, 2, 3, 4, 5, 6, 7] rfl rfl (⟨h1, h2, by show c ≤ n; omega⟩) (Nat.le_of_ble_eq_true rfl) (Nat.le_of_ble_eq_true rfl) dX0_form_50
  · have c_12 : i < n := by
      rcases Nat.lt_or_ge i n with q | q
      · exact q
      · exact absurd ((nI_leI (by omega) (by omega)).mpr q) c_12
    refine lv_aload_n hx hb dX0_form_15 rfl (lv_at hl 1 rfl) ?_
    refine va_get (D := E.1) (ci := 0) (v := .ref hbo) (C := RX0) (T := TX0) (N := 3) hx hb hts ux_X0' hown hK.1 hP 0 rfl rfl 0 (by decide) (hts _ (ta_cons _ mw_95)) (fun _ h9 => h9) rfl dX0_form_16 ?_
    refine lv_iload_n hx hb dX0_form_19 rfl (lv_at hl 0 rfl) ?_
    refine lv_aload_n hx hb dX0_form_20 rfl (lv_at hl 2 rfl) ?_
    refine va_get (D := E.1) (ci := 5) (v := .ref ho) (C := RX5) (T := TX5) (N := 5) hx hb hts ux_X5' hown hK.1 hP 3 rfl rfl 4 (by decide) (hts _ (ta_cons _ mw_72)) (fun _ h9 => h9) rfl dX0_form_21 ?_
    refine lv_iload_n hx hb dX0_form_24 rfl (lv_at hl 0 rfl) ?_
    refine ia_z i hx hb hK hP 7 rfl (by first | assumption | omega) (by omega) dX0_form_25 ?_
    refine lv_if_eq (tgt := 33) hx hb dX0_form_26 (by decide) (fun c_26 => ?_) (fun c_26 => ?_)
    · refine lv_aload_n hx hb dX0_form_33 rfl (lv_at hl 1 rfl) ?_
      refine lv_aload_n hx hb dX0_form_34 rfl (lv_at hl 2 rfl) ?_
      refine va_get (D := E.1) (ci := 5) (v := .ref hg) (C := RX5) (T := TX5) (N := 5) hx hb hts ux_X5' hown hK.1 hP 3 rfl rfl 3 (by decide) (hts _ (ta_cons _ mw_69)) (fun _ h9 => h9) rfl dX0_form_35 ?_
      refine lv_iload_n hx hb dX0_form_38 rfl (lv_at hl 0 rfl) ?_
      refine ia_i i hx hb hK hP 6 rfl (by first | assumption | omega) (by omega) dX0_form_39 ?_
      rcases pl_ex g (reg i) c with ⟨b, hbc, g1, g2⟩ | g1
      · have z1 := bat_old (by omega) c_26 h1 h2 hc h4 hbc g1 g2
        refine af_i (wc := [(hgr, .inr (0, [.ref hbo, .int (nI c), .ref hrg])), (hrg, .inl (E.2.1, n, .inl g))]) (wr := [(hbo, .inl (E.2.1, n, .inl o)), (hw, .inr (5, [.int (nI n), .ref hv, .ref hs, .ref hg, .ref ho])), (hv, .inl (E.2.2.1, n, .inr (.inl vals))), (hs, .inl (E.2.1, n, .inl stp)), (hg, .inl (E.2.1, n, .inl reg)), (ho, .inl (E.2.2.2, n, .inl lo))]) (rn_V (b := hgr) (ci := 0) (As := [.int (reg i)]) (rest := [.int (nI i), .ref hbo]) (n := 1) ⟨hx, hb, hml, hown, hts⟩ ta_cons wq_X0_30 (by decide +kernel) hK (c_place_old l E n hgr hbo hrg c b g (reg i) (hn) (by omega) (hbc) (g1) (g2) _) ⟨Nat.le_of_ble_eq_true rfl, Nat.le_of_ble_eq_true rfl⟩ hP hD [0, 2] rfl rfl rfl rfl rfl hl.1 rfl (Nat.le_of_ble_eq_true rfl) dX0_form_40 ⟨Nat.le_of_ble_eq_true rfl, Nat.le_of_ble_eq_true rfl⟩) hP hD hS hA [0, 2] [1, 3, 4, 5, 6, 7] rfl rfl rfl (by decide) (fun r_40 u_40 H locs hwC hP hD hS => ?_)
        subst hwC
        have hP : va_P E.1 classes [(hbo, .inl (E.2.1, n, .inl o)), (hw, .inr (5, [.int (nI n), .ref hv, .ref hs, .ref hg, .ref ho])), (hv, .inl (E.2.2.1, n, .inr (.inl vals))), (hs, .inl (E.2.1, n, .inl stp)), (hg, .inl (E.2.1, n, .inl reg)), (ho, .inl (E.2.2.2, n, .inl lo)), (hgr, .inr (0, [.ref hbo, .int (nI c), .ref hrg])), (hrg, .inl (E.2.1, n, .inl (upd g b (g b ||| (reg i)))))] H := hP
        have hD : va_D AM [(hbo, .inl (E.2.1, n, .inl o)), (hw, .inr (5, [.int (nI n), .ref hv, .ref hs, .ref hg, .ref ho])), (hv, .inl (E.2.2.1, n, .inr (.inl vals))), (hs, .inl (E.2.1, n, .inl stp)), (hg, .inl (E.2.1, n, .inl reg)), (ho, .inl (E.2.2.2, n, .inl lo)), (hgr, .inr (0, [.ref hbo, .int (nI c), .ref hrg])), (hrg, .inl (E.2.1, n, .inl (upd g b (g b ||| (reg i)))))] := hD
        refine as_i i hx hb hK hP hD hS 0 rfl (by first | assumption | omega) (by omega) dX0_form_43 (fun H locs hP hD hS => ?_)
        have hP : va_P E.1 classes [(hbo, .inl (E.2.1, n, .inl (upd o i (nI b)))), (hw, .inr (5, [.int (nI n), .ref hv, .ref hs, .ref hg, .ref ho])), (hv, .inl (E.2.2.1, n, .inr (.inl vals))), (hs, .inl (E.2.1, n, .inl stp)), (hg, .inl (E.2.1, n, .inl reg)), (ho, .inl (E.2.2.2, n, .inl lo)), (hgr, .inr (0, [.ref hbo, .int (nI c), .ref hrg])), (hrg, .inl (E.2.1, n, .inl (upd g b (g b ||| (reg i)))))] H := hP
        have hD : va_D AM [(hbo, .inl (E.2.1, n, .inl (upd o i (nI b)))), (hw, .inr (5, [.int (nI n), .ref hv, .ref hs, .ref hg, .ref ho])), (hv, .inl (E.2.2.1, n, .inr (.inl vals))), (hs, .inl (E.2.1, n, .inl stp)), (hg, .inl (E.2.1, n, .inl reg)), (ho, .inl (E.2.2.2, n, .inl lo)), (hgr, .inr (0, [.ref hbo, .int (nI c), .ref hrg])), (hrg, .inl (E.2.1, n, .inl (upd g b (g b ||| (reg i)))))] := hD
        refine lv_iinc (v := nI (i + 1)) (lv' := [(2, .int (nI (i + 1))), (0, .ref hgr), (1, .ref hw)]) hx hb dX0_form_44 hl (k := 0) rfl (nI_1 i) (by decide) rfl (fun ls hl => ?_)
        refine lv_goto (tgt := 7) hx hb dX0_form_47 (by decide) ?_
        exact ih7 (i + 1, c, upd o i (nI b), upd g b (g b ||| reg i)) _ _ _ ⟨hP.sub [6, 0, 7, 1, 2, 3, 4, 5] rfl, hD.sub [6, 0, 7, 1, 2, 3, 4, 5] (by decide) rfl, hS, lv_sub hl [0, 1, 2] rfl, by omega, by omega, z1.1, z1.2.1, z1.2.2⟩ (by show n - (i + 1) < n - i; omega)
      · have z1 := bat_new (by omega) c_26 h1 h2 hc h4 g1
        refine af_i (wc := [(hgr, .inr (0, [.ref hbo, .int (nI c), .ref hrg])), (hrg, .inl (E.2.1, n, .inl g))]) (wr := [(hbo, .inl (E.2.1, n, .inl o)), (hw, .inr (5, [.int (nI n), .ref hv, .ref hs, .ref hg, .ref ho])), (hv, .inl (E.2.2.1, n, .inr (.inl vals))), (hs, .inl (E.2.1, n, .inl stp)), (hg, .inl (E.2.1, n, .inl reg)), (ho, .inl (E.2.2.2, n, .inl lo))]) (rn_V (b := hgr) (ci := 0) (As := [.int (reg i)]) (rest := [.int (nI i), .ref hbo]) (n := 1) ⟨hx, hb, hml, hown, hts⟩ ta_cons wq_X0_30 (by decide +kernel) hK (c_place_new l E n hgr hbo hrg c g (reg i) (hn) (by omega) (g1) _) ⟨Nat.le_of_ble_eq_true rfl, Nat.le_of_ble_eq_true rfl⟩ hP hD [0, 2] rfl rfl rfl rfl rfl hl.1 rfl (Nat.le_of_ble_eq_true rfl) dX0_form_40 ⟨Nat.le_of_ble_eq_true rfl, Nat.le_of_ble_eq_true rfl⟩) hP hD hS hA [0, 2] [1, 3, 4, 5, 6, 7] rfl rfl rfl (by decide) (fun r_40 u_40 H locs hwC hP hD hS => ?_)
        subst hwC
        have hP : va_P E.1 classes [(hbo, .inl (E.2.1, n, .inl o)), (hw, .inr (5, [.int (nI n), .ref hv, .ref hs, .ref hg, .ref ho])), (hv, .inl (E.2.2.1, n, .inr (.inl vals))), (hs, .inl (E.2.1, n, .inl stp)), (hg, .inl (E.2.1, n, .inl reg)), (ho, .inl (E.2.2.2, n, .inl lo)), (hgr, .inr (0, [.ref hbo, .int (nI (c + 1)), .ref hrg])), (hrg, .inl (E.2.1, n, .inl (upd g c (reg i))))] H := hP
        have hD : va_D AM [(hbo, .inl (E.2.1, n, .inl o)), (hw, .inr (5, [.int (nI n), .ref hv, .ref hs, .ref hg, .ref ho])), (hv, .inl (E.2.2.1, n, .inr (.inl vals))), (hs, .inl (E.2.1, n, .inl stp)), (hg, .inl (E.2.1, n, .inl reg)), (ho, .inl (E.2.2.2, n, .inl lo)), (hgr, .inr (0, [.ref hbo, .int (nI (c + 1)), .ref hrg])), (hrg, .inl (E.2.1, n, .inl (upd g c (reg i))))] := hD
        refine as_i i hx hb hK hP hD hS 0 rfl (by first | assumption | omega) (by omega) dX0_form_43 (fun H locs hP hD hS => ?_)
        have hP : va_P E.1 classes [(hbo, .inl (E.2.1, n, .inl (upd o i (nI c)))), (hw, .inr (5, [.int (nI n), .ref hv, .ref hs, .ref hg, .ref ho])), (hv, .inl (E.2.2.1, n, .inr (.inl vals))), (hs, .inl (E.2.1, n, .inl stp)), (hg, .inl (E.2.1, n, .inl reg)), (ho, .inl (E.2.2.2, n, .inl lo)), (hgr, .inr (0, [.ref hbo, .int (nI (c + 1)), .ref hrg])), (hrg, .inl (E.2.1, n, .inl (upd g c (reg i))))] H := hP
        have hD : va_D AM [(hbo, .inl (E.2.1, n, .inl (upd o i (nI c)))), (hw, .inr (5, [.int (nI n), .ref hv, .ref hs, .ref hg, .ref ho])), (hv, .inl (E.2.2.1, n, .inr (.inl vals))), (hs, .inl (E.2.1, n, .inl stp)), (hg, .inl (E.2.1, n, .inl reg)), (ho, .inl (E.2.2.2, n, .inl lo)), (hgr, .inr (0, [.ref hbo, .int (nI (c + 1)), .ref hrg])), (hrg, .inl (E.2.1, n, .inl (upd g c (reg i))))] := hD
        refine lv_iinc (v := nI (i + 1)) (lv' := [(2, .int (nI (i + 1))), (0, .ref hgr), (1, .ref hw)]) hx hb dX0_form_44 hl (k := 0) rfl (nI_1 i) (by decide) rfl (fun ls hl => ?_)
        refine lv_goto (tgt := 7) hx hb dX0_form_47 (by decide) ?_
        exact ih7 (i + 1, c + 1, upd o i (nI c), upd g c (reg i)) _ _ _ ⟨hP.sub [6, 0, 7, 1, 2, 3, 4, 5] rfl, hD.sub [6, 0, 7, 1, 2, 3, 4, 5] (by decide) rfl, hS, lv_sub hl [0, 1, 2] rfl, by omega, by omega, z1.1, z1.2.1, z1.2.2⟩ (by show n - (i + 1) < n - i; omega)
    · have z1 := bat_left (by omega) c_26 h1 h2 hc h4
      refine lv_iconst (v := (-1)) hx hb dX0_form_29 (by decide) ?_
      refine lv_goto (tgt := 43) hx hb dX0_form_30 (by decide) ?_
      refine as_i i hx hb hK hP hD hS 1 rfl (by first | assumption | omega) (by omega) dX0_form_43 (fun H locs hP hD hS => ?_)
      have hP : va_P E.1 classes [(hgr, .inr (0, [.ref hbo, .int (nI c), .ref hrg])), (hbo, .inl (E.2.1, n, .inl (upd o i (-1)))), (hrg, .inl (E.2.1, n, .inl g)), (hw, .inr (5, [.int (nI n), .ref hv, .ref hs, .ref hg, .ref ho])), (hv, .inl (E.2.2.1, n, .inr (.inl vals))), (hs, .inl (E.2.1, n, .inl stp)), (hg, .inl (E.2.1, n, .inl reg)), (ho, .inl (E.2.2.2, n, .inl lo))] H := hP
      have hD : va_D AM [(hgr, .inr (0, [.ref hbo, .int (nI c), .ref hrg])), (hbo, .inl (E.2.1, n, .inl (upd o i (-1)))), (hrg, .inl (E.2.1, n, .inl g)), (hw, .inr (5, [.int (nI n), .ref hv, .ref hs, .ref hg, .ref ho])), (hv, .inl (E.2.2.1, n, .inr (.inl vals))), (hs, .inl (E.2.1, n, .inl stp)), (hg, .inl (E.2.1, n, .inl reg)), (ho, .inl (E.2.2.2, n, .inl lo))] := hD
      refine lv_iinc (v := nI (i + 1)) (lv' := [(2, .int (nI (i + 1))), (0, .ref hgr), (1, .ref hw)]) hx hb dX0_form_44 hl (k := 0) rfl (nI_1 i) (by decide) rfl (fun ls hl => ?_)
      refine lv_goto (tgt := 7) hx hb dX0_form_47 (by decide) ?_
      exact ih7 (i + 1, c, upd o i (-1), g) _ _ _ ⟨hP.sub [0, 1, 2, 3, 4, 5, 6, 7] rfl, hD.sub [0, 1, 2, 3, 4, 5, 6, 7] (by decide) rfl, hS, lv_sub hl [0, 1, 2] rfl, by omega, by omega, z1.1, z1.2.1, z1.2.2⟩ (by show n - (i + 1) < n - i; omega)

