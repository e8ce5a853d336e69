set_option maxHeartbeats 4000000 in
set_option maxRecDepth 100000 in
theorem c_fhas (l : Launch) (E : EE) (hfl : Nat) (hfs : Nat) (fc : Int32) (fs : Nat → Int64) (w : Nat) (t : Int32) (hw16 : w < 16) : Mi (S := Unit) l E yX3_has (.code yX3_has cX3_has 3 (some .boolean)) ({ frames := 0, cells := 0, slots := 0, locals := 0 }) [.ref hfl, .int (nI w), .int t] [(hfl, .inr (3, [.int fc, .ref hfs])), (hfs, .inl (E.2.2.1, 16, .inr (.inl fs)))] (fun (ans : Int32) (_ : Unit) => ans = fhas (fs w) t) (fun u : Unit => [(hfl, .inr (3, [.int fc, .ref hfs])), (hfs, .inl (E.2.2.1, 16, .inr (.inl fs)))]) := by
  refine Mi.ofW (by decide) (Nat.le_of_ble_eq_true rfl) ?_
  intro pM eM sM mM bM meM cM AM ls hB hA hP hD hS hl
  obtain ⟨hx, hb, hr, hml, hown, hlocks, hnm, hts, hK⟩ := hB
  have hl : lv_has ls 3 [(0, .ref hfl), (1, .int (nI w)), (2, .int t)] := hl
  refine lv_aload_n hx hb dX3_has_0 rfl (lv_at hl 0 rfl) ?_
  refine va_get (D := E.1) (ci := 3) (v := .ref hfs) (C := RX3) (T := TX3) (N := 2) hx hb hts ux_X3' hown hK.1 hP 0 rfl rfl 1 (by decide) (hts _ (ta_cons _ mw_117)) (fun _ h9 => h9) rfl dX3_has_1 ?_
  refine lv_iload_n hx hb dX3_has_4 rfl (lv_at hl 1 rfl) ?_
  refine ia_l w hx hb hK hP 1 rfl (by first | assumption | omega) (by decide) dX3_has_5 ?_
  refine lv_lconst (v := 1) hx hb dX3_has_6 (by decide) ?_
  refine lv_iload_n hx hb dX3_has_7 rfl (lv_at hl 2 rfl) ?_
  refine lv_lshl hx hb dX3_has_8 rfl ?_
  refine lv_land hx hb dX3_has_9 ?_
  refine lv_lconst (v := 0) hx hb dX3_has_10 (by decide) ?_
  refine W.lcmp hx hb dX3_has_11 ?_
  refine lv_if_eq (tgt := 19) hx hb dX3_has_12 (by decide) (fun c_12 => ?_) (fun c_12 => ?_)
  · refine lv_iconst (v := 0) hx hb dX3_has_19 (by decide) ?_
    exact Rz hx hb hr hlocks (Or.inl rfl) hP hD hS () [0, 1] rfl rfl ((if_pos (lg_cmp_0.mp c_12)).symm) (Nat.le_of_ble_eq_true rfl) (Nat.le_of_ble_eq_true rfl) dX3_has_20
  · refine lv_iconst (v := 1) hx hb dX3_has_15 (by decide) ?_
    refine lv_goto (tgt := 20) hx hb dX3_has_16 (by decide) ?_
    exact Rz hx hb hr hlocks (Or.inr rfl) hP hD hS () [0, 1] rfl rfl ((if_neg (fun h => c_12 (lg_cmp_0.mpr h))).symm) (Nat.le_of_ble_eq_true rfl) (Nat.le_of_ble_eq_true rfl) dX3_has_20

set_option maxHeartbeats 4000000 in
set_option maxRecDepth 100000 in
theorem c_fadd (l : Launch) (E : EE) (hfl : Nat) (hfs : Nat) (fc : Int32) (fs : Nat → Int64) (w : Nat) (t : Int32) (hw16 : w < 16) : Mv (S := Unit) l E yX3_add (.code yX3_add cX3_add 3 none) ({ frames := 0, cells := 0, slots := 0, locals := 0 }) [.ref hfl, .int (nI w), .int t] [(hfl, .inr (3, [.int fc, .ref hfs])), (hfs, .inl (E.2.2.1, 16, .inr (.inl fs)))] (fun _ : Unit => True) (fun u : Unit => [(hfl, .inr (3, [.int (fc + 1), .ref hfs])), (hfs, .inl (E.2.2.1, 16, .inr (.inl (vp_updL fs w (fs w ||| bitm t)))))]) := by
  refine Mv.ofW (by decide) (Nat.le_of_ble_eq_true rfl) ?_
  intro pM eM sM mM bM meM cM AM ls hB hA hP hD hS hl
  obtain ⟨hx, hb, hr, hml, hown, hlocks, hnm, hts, hK⟩ := hB
  have hl : lv_has ls 3 [(0, .ref hfl), (1, .int (nI w)), (2, .int t)] := hl
  refine lv_aload_n hx hb dX3_add_0 rfl (lv_at hl 0 rfl) ?_
  refine va_get (D := E.1) (ci := 3) (v := .ref hfs) (C := RX3) (T := TX3) (N := 2) hx hb hts ux_X3' hown hK.1 hP 0 rfl rfl 1 (by decide) (hts _ (ta_cons _ mw_117)) (fun _ h9 => h9) rfl dX3_add_1 ?_
  refine lv_iload_n hx hb dX3_add_4 rfl (lv_at hl 1 rfl) ?_
  refine lv_dup2_11 hx hb dX3_add_5 rfl rfl ?_
  refine ia_l w hx hb hK hP 1 rfl (by first | assumption | omega) (by decide) dX3_add_6 ?_
  refine lv_lconst (v := 1) hx hb dX3_add_7 (by decide) ?_
  refine lv_iload_n hx hb dX3_add_8 rfl (lv_at hl 2 rfl) ?_
  refine lv_lshl hx hb dX3_add_9 rfl ?_
  refine lv_lor hx hb dX3_add_10 ?_
  refine as_l w hx hb hK hP hD hS 1 rfl (by first | assumption | omega) (by decide) dX3_add_11 (fun H locs hP hD hS => ?_)
  have hP : va_P E.1 classes [(hfl, .inr (3, [.int fc, .ref hfs])), (hfs, .inl (E.2.2.1, 16, .inr (.inl (vp_updL fs w ((fs w) ||| ((1 : Int64) <<< (t.toInt64 &&& 63)))))))] H := hP
  have hD : va_D AM [(hfl, .inr (3, [.int fc, .ref hfs])), (hfs, .inl (E.2.2.1, 16, .inr (.inl (vp_updL fs w ((fs w) ||| ((1 : Int64) <<< (t.toInt64 &&& 63)))))))] := hD
  refine lv_aload_n hx hb dX3_add_12 rfl (lv_at hl 0 rfl) ?_
  refine lv_dup hx hb dX3_add_13 rfl ?_
  refine va_get (D := E.1) (ci := 3) (v := .int fc) (C := RX3) (T := TX3) (N := 2) hx hb hts ux_X3' hown hK.1 hP 0 rfl rfl 0 (by decide) (hts _ (ta_cons _ mw_115)) (fun _ h9 => h9) rfl dX3_add_14 ?_
  refine lv_iconst (v := 1) hx hb dX3_add_17 (by decide) ?_
  refine lv_iadd hx hb dX3_add_18 ?_
  refine va_put (D := E.1) (ci := 3) (v := .int (fc + 1)) (ty := .int) (C := RX3) (T := TX3) (N := 2) hx hb hts ux_X3' tyX3 tyX3_ok nmX3 hown hK.1 hP hD hS 0 rfl rfl 0 (by decide) (hts _ (ta_cons _ mw_115)) (fun _ h9 => h9) rfl (by decide +kernel) rfl rfl (Nat.le_of_ble_eq_true rfl) dX3_add_19 (fun H locs hP hD hS => ?_)
  have hP : va_P E.1 classes [(hfl, .inr (3, [.int (fc + 1), .ref hfs])), (hfs, .inl (E.2.2.1, 16, .inr (.inl (vp_updL fs w ((fs w) ||| ((1 : Int64) <<< (t.toInt64 &&& 63)))))))] H := hP
  have hD : va_D AM [(hfl, .inr (3, [.int (fc + 1), .ref hfs])), (hfs, .inl (E.2.2.1, 16, .inr (.inl (vp_updL fs w ((fs w) ||| ((1 : Int64) <<< (t.toInt64 &&& 63)))))))] := hD
  exact Rv hx hb hr hlocks hP hD hS () [0, 1] rfl rfl (trivial) (Nat.le_of_ble_eq_true rfl) (Nat.le_of_ble_eq_true rfl) dX3_add_22

set_option maxHeartbeats 4000000 in
set_option maxRecDepth 100000 in
theorem c_frem (l : Launch) (E : EE) (hfl : Nat) (hfs : Nat) (fc : Int32) (fs : Nat → Int64) (w : Nat) (t : Int32) (hw16 : w < 16) : Mv (S := Unit) l E yX3_remove (.code yX3_remove cX3_remove 3 none) ({ frames := 0, cells := 0, slots := 0, locals := 0 }) [.ref hfl, .int (nI w), .int t] [(hfl, .inr (3, [.int fc, .ref hfs])), (hfs, .inl (E.2.2.1, 16, .inr (.inl fs)))] (fun _ : Unit => True) (fun u : Unit => [(hfl, .inr (3, [.int (fc - 1), .ref hfs])), (hfs, .inl (E.2.2.1, 16, .inr (.inl (vp_updL fs w (fs w &&& (bitm t ^^^ (-1)))))))]) := by
  refine Mv.ofW (by decide) (Nat.le_of_ble_eq_true rfl) ?_
  intro pM eM sM mM bM meM cM AM ls hB hA hP hD hS hl
  obtain ⟨hx, hb, hr, hml, hown, hlocks, hnm, hts, hK⟩ := hB
  have hl : lv_has ls 3 [(0, .ref hfl), (1, .int (nI w)), (2, .int t)] := hl
  refine lv_aload_n hx hb dX3_remove_0 rfl (lv_at hl 0 rfl) ?_
  refine va_get (D := E.1) (ci := 3) (v := .ref hfs) (C := RX3) (T := TX3) (N := 2) hx hb hts ux_X3' hown hK.1 hP 0 rfl rfl 1 (by decide) (hts _ (ta_cons _ mw_117)) (fun _ h9 => h9) rfl dX3_remove_1 ?_
  refine lv_iload_n hx hb dX3_remove_4 rfl (lv_at hl 1 rfl) ?_
  refine lv_dup2_11 hx hb dX3_remove_5 rfl rfl ?_
  refine ia_l w hx hb hK hP 1 rfl (by first | assumption | omega) (by decide) dX3_remove_6 ?_
  refine lv_lconst (v := 1) hx hb dX3_remove_7 (by decide) ?_
  refine lv_iload_n hx hb dX3_remove_8 rfl (lv_at hl 2 rfl) ?_
  refine lv_lshl hx hb dX3_remove_9 rfl ?_
  refine lv_ldc2 (own := RX3) (v := -1) hx hb hown (hts _ (ta_cons _ mw_348)) dX3_remove_10 ?_
  refine lv_lxor hx hb dX3_remove_13 ?_
  refine lv_land hx hb dX3_remove_14 ?_
  refine as_l w hx hb hK hP hD hS 1 rfl (by first | assumption | omega) (by decide) dX3_remove_15 (fun H locs hP hD hS => ?_)
  have hP : va_P E.1 classes [(hfl, .inr (3, [.int fc, .ref hfs])), (hfs, .inl (E.2.2.1, 16, .inr (.inl (vp_updL fs w ((fs w) &&& (((1 : Int64) <<< (t.toInt64 &&& 63)) ^^^ (-1 : Int64)))))))] H := hP
  have hD : va_D AM [(hfl, .inr (3, [.int fc, .ref hfs])), (hfs, .inl (E.2.2.1, 16, .inr (.inl (vp_updL fs w ((fs w) &&& (((1 : Int64) <<< (t.toInt64 &&& 63)) ^^^ (-1 : Int64)))))))] := hD
  refine lv_aload_n hx hb dX3_remove_16 rfl (lv_at hl 0 rfl) ?_
  refine lv_dup hx hb dX3_remove_17 rfl ?_
  refine va_get (D := E.1) (ci := 3) (v := .int fc) (C := RX3) (T := TX3) (N := 2) hx hb hts ux_X3' hown hK.1 hP 0 rfl rfl 0 (by decide) (hts _ (ta_cons _ mw_115)) (fun _ h9 => h9) rfl dX3_remove_18 ?_
  refine lv_iconst (v := 1) hx hb dX3_remove_21 (by decide) ?_
  refine lv_isub hx hb dX3_remove_22 ?_
  refine va_put (D := E.1) (ci := 3) (v := .int (fc - 1)) (ty := .int) (C := RX3) (T := TX3) (N := 2) hx hb hts ux_X3' tyX3 tyX3_ok nmX3 hown hK.1 hP hD hS 0 rfl rfl 0 (by decide) (hts _ (ta_cons _ mw_115)) (fun _ h9 => h9) rfl (by decide +kernel) rfl rfl (Nat.le_of_ble_eq_true rfl) dX3_remove_23 (fun H locs hP hD hS => ?_)
  have hP : va_P E.1 classes [(hfl, .inr (3, [.int (fc - 1), .ref hfs])), (hfs, .inl (E.2.2.1, 16, .inr (.inl (vp_updL fs w ((fs w) &&& (((1 : Int64) <<< (t.toInt64 &&& 63)) ^^^ (-1 : Int64)))))))] H := hP
  have hD : va_D AM [(hfl, .inr (3, [.int (fc - 1), .ref hfs])), (hfs, .inl (E.2.2.1, 16, .inr (.inl (vp_updL fs w ((fs w) &&& (((1 : Int64) <<< (t.toInt64 &&& 63)) ^^^ (-1 : Int64)))))))] := hD
  exact Rv hx hb hr hlocks hP hD hS () [0, 1] rfl rfl (trivial) (Nat.le_of_ble_eq_true rfl) (Nat.le_of_ble_eq_true rfl) dX3_remove_26

set_option maxHeartbeats 4000000 in
set_option maxRecDepth 100000 in
theorem c_fres (l : Launch) (E : EE) (hfl : Nat) (hfs : Nat) (fc : Int32) (fs : Nat → Int64)  : Mv (S := Unit) l E yX3_reset (.code yX3_reset cX3_reset 2 none) ({ frames := 0, cells := 0, slots := 0, locals := 0 }) [.ref hfl] [(hfl, .inr (3, [.int fc, .ref hfs])), (hfs, .inl (E.2.2.1, 16, .inr (.inl fs)))] (fun _ : Unit => True) (fun u : Unit => [(hfl, .inr (3, [.int 0, .ref hfs])), (hfs, .inl (E.2.2.1, 16, .inr (.inl (fun _ => 0))))]) := by
  refine Mv.ofW (by decide) (Nat.le_of_ble_eq_true rfl) ?_
  intro pM eM sM mM bM meM cM AM ls hB hA hP hD hS hl
  obtain ⟨hx, hb, hr, hml, hown, hlocks, hnm, hts, hK⟩ := hB
  have hl : lv_has ls 2 [(0, .ref hfl)] := hl
  refine lv_aload_n hx hb dX3_reset_0 rfl (lv_at hl 0 rfl) ?_
  refine lv_iconst (v := 0) hx hb dX3_reset_1 (by decide) ?_
  refine va_put (D := E.1) (ci := 3) (v := .int 0) (ty := .int) (C := RX3) (T := TX3) (N := 2) hx hb hts ux_X3' tyX3 tyX3_ok nmX3 hown hK.1 hP hD hS 0 rfl rfl 0 (by decide) (hts _ (ta_cons _ mw_115)) (fun _ h9 => h9) rfl (by decide +kernel) rfl rfl (Nat.le_of_ble_eq_true rfl) dX3_reset_2 (fun H locs hP hD hS => ?_)
  have hP : va_P E.1 classes [(hfl, .inr (3, [.int 0, .ref hfs])), (hfs, .inl (E.2.2.1, 16, .inr (.inl fs)))] H := hP
  have hD : va_D AM [(hfl, .inr (3, [.int 0, .ref hfs])), (hfs, .inl (E.2.2.1, 16, .inr (.inl fs)))] := hD
  refine lv_iconst (v := 0) hx hb dX3_reset_5 (by decide) ?_
  refine lv_istore_n (lv' := [(1, .int 0), (0, .ref hfl)]) hx hb dX3_reset_6 rfl hl (by decide) rfl (fun ls hl => ?_)
  refine W.loop (σ := (Nat) × (Nat → Int64)) (fun a H locs ls => match a with | (i, v) => va_P E.1 classes [(hfl, .inr (3, [.int 0, .ref hfs])), (hfs, .inl (E.2.2.1, 16, .inr (.inl v)))] H ∧ va_D AM [(hfl, .inr (3, [.int 0, .ref hfs])), (hfs, .inl (E.2.2.1, 16, .inr (.inl v)))] ∧ va_S AM sM.heap H locs ∧ lv_has ls 2 [(1, .int (nI i)), (0, .ref hfl)] ∧ (i ≤ 16) ∧ (∀ j, j < i → v j = 0)) (fun a => match a with | (i, v) => 16 - i) (0, fs) ⟨hP.sub [0, 1] rfl, hD.sub [0, 1] (by decide) rfl, hS, lv_sub hl [0, 1] rfl, Nat.zero_le _, fun j h => absurd h (Nat.not_lt_zero j)⟩ ?_
  intro a H locs ls hI ih7
  obtain ⟨i, v⟩ := a
  obtain ⟨hP, hD, hS, hl, hi, p1⟩ := hI
  have hP : va_P E.1 classes [(hfl, .inr (3, [.int 0, .ref hfs])), (hfs, .inl (E.2.2.1, 16, .inr (.inl v)))] H := hP
  have hD : va_D AM [(hfl, .inr (3, [.int 0, .ref hfs])), (hfs, .inl (E.2.2.1, 16, .inr (.inl v)))] := hD
  have hl : lv_has ls 2 [(1, .int (nI i)), (0, .ref hfl)] := hl
  have hi : i ≤ 16 := hi
  have p1 : ∀ j, j < i → v j = 0 := p1
  refine lv_iload_n hx hb dX3_reset_7 rfl (lv_at hl 0 rfl) ?_
  refine lv_bipush (v := 16) hx hb dX3_reset_8 (by decide) ?_
  refine lv_icmp_ge (tgt := 26) hx hb dX3_reset_10 (by decide) (fun c_10 => ?_) (fun c_10 => ?_)
  · have c_10 : 16 ≤ i := (nI_leI (by omega) (by omega)).mp c_10
    have e9 : i = 16 := by omega
    rw [e9] at p1
    obtain ⟨hP, hD⟩ := cg_l (g := fun _ => 0) hP hD 1 rfl (p1)
    have hP : va_P E.1 classes [(hfl, .inr (3, [.int 0, .ref hfs])), (hfs, .inl (E.2.2.1, 16, .inr (.inl (fun _ => 0))))] H := hP
    have hD : va_D AM [(hfl, .inr (3, [.int 0, .ref hfs])), (hfs, .inl (E.2.2.1, 16, .inr (.inl (fun _ => 0))))] := hD
    exact Rv hx hb hr hlocks hP hD hS () [0, 1] rfl rfl (trivial) (Nat.le_of_ble_eq_true rfl) (Nat.le_of_ble_eq_true rfl) dX3_reset_26
  · have c_10 : i < 16 := by
      rcases Nat.lt_or_ge i 16 with q | q
      · exact q
      · exact absurd ((nI_leI (by omega) (by omega)).mpr q) c_10
    refine lv_aload_n hx hb dX3_reset_13 rfl (lv_at hl 1 rfl) ?_
    refine va_get (D := E.1) (ci := 3) (v := .ref hfs) (C := RX3) (T := TX3) (N := 2) hx hb hts ux_X3' hown hK.1 hP 0 rfl rfl 1 (by decide) (hts _ (ta_cons _ mw_117)) (fun _ h9 => h9) rfl dX3_reset_14 ?_
    refine lv_iload_n hx hb dX3_reset_17 rfl (lv_at hl 0 rfl) ?_
    refine lv_lconst (v := 0) hx hb dX3_reset_18 (by decide) ?_
    refine as_l i hx hb hK hP hD hS 1 rfl (by first | assumption | omega) (by decide) dX3_reset_19 (fun H locs hP hD hS => ?_)
    have hP : va_P E.1 classes [(hfl, .inr (3, [.int 0, .ref hfs])), (hfs, .inl (E.2.2.1, 16, .inr (.inl (vp_updL v i (0 : Int64)))))] H := hP
    have hD : va_D AM [(hfl, .inr (3, [.int 0, .ref hfs])), (hfs, .inl (E.2.2.1, 16, .inr (.inl (vp_updL v i (0 : Int64)))))] := hD
    refine lv_iinc (v := nI (i + 1)) (lv' := [(1, .int (nI (i + 1))), (0, .ref hfl)]) hx hb dX3_reset_20 hl (k := 0) rfl (nI_1 i) (by decide) rfl (fun ls hl => ?_)
    refine lv_goto (tgt := 7) hx hb dX3_reset_23 (by decide) ?_
    exact ih7 (i + 1, vp_updL v i 0) _ _ _ ⟨hP.sub [0, 1] rfl, hD.sub [0, 1] (by decide) rfl, hS, lv_sub hl [0, 1] rfl, by omega, fl_l p1⟩ (by show 16 - (i + 1) < 16 - i; omega)

set_option maxHeartbeats 4000000 in
set_option maxRecDepth 100000 in
theorem c_fill (l : Launch) (E : EE) (n : Nat) (hwt : Nat) (hrw : Nat) (hgr : Nat) (hbo : Nat) (hrg : Nat) (fr : Int32) (en : Int32) (cnt : Int32) (b : Int32) (rw : Nat → Int32) (bo : Nat → Int32) (hn : n < 2 ^ 31) : Mi (S := Nat → Int32) l E yX4_fill (.code yX4_fill cX4_fill 4 (some .int)) ({ frames := 0, cells := 0, slots := 0, locals := 0 }) [.ref hwt, .ref hgr, .int b] [(hwt, .inr (4, [.ref hrw, .int fr, .int en])), (hrw, .inl (E.2.1, n, .inl rw)), (hgr, .inr (0, [.ref hbo, .int cnt, .ref hrg])), (hbo, .inl (E.2.1, n, .inl bo))] (fun (ans : Int32) (u : Nat → Int32) => ans = nI (memB bo b n).length ∧ RowIs u 0 (memB bo b n)) (fun u : Nat → Int32 => [(hwt, .inr (4, [.ref hrw, .int 0, .int (nI (memB bo b n).length)])), (hrw, .inl (E.2.1, n, .inl u)), (hgr, .inr (0, [.ref hbo, .int cnt, .ref hrg])), (hbo, .inl (E.2.1, n, .inl bo))]) := by
  refine Mi.ofW (by decide) (Nat.le_of_ble_eq_true rfl) ?_
  intro pM eM sM mM bM meM cM AM ls hB hA hP hD hS hl
  obtain ⟨hx, hb, hr, hml, hown, hlocks, hnm, hts, hK⟩ := hB
  have hl : lv_has ls 4 [(0, .ref hwt), (1, .ref hgr), (2, .int b)] := hl
  refine lv_aload_n hx hb dX4_fill_0 rfl (lv_at hl 0 rfl) ?_
  refine lv_iconst (v := 0) hx hb dX4_fill_1 (by decide) ?_
  refine va_put (D := E.1) (ci := 4) (v := .int 0) (ty := .int) (C := RX4) (T := TX4) (N := 3) hx hb hts ux_X4' tyX4 tyX4_ok nmX4 hown hK.1 hP hD hS 0 rfl rfl 1 (by decide) (hts _ (ta_cons _ mw_136)) (fun _ h9 => h9) rfl (by decide +kernel) rfl rfl (Nat.le_of_ble_eq_true rfl) dX4_fill_2 (fun H locs hP hD hS => ?_)
  have hP : va_P E.1 classes [(hwt, .inr (4, [.ref hrw, .int 0, .int en])), (hrw, .inl (E.2.1, n, .inl rw)), (hgr, .inr (0, [.ref hbo, .int cnt, .ref hrg])), (hbo, .inl (E.2.1, n, .inl bo))] H := hP
  have hD : va_D AM [(hwt, .inr (4, [.ref hrw, .int 0, .int en])), (hrw, .inl (E.2.1, n, .inl rw)), (hgr, .inr (0, [.ref hbo, .int cnt, .ref hrg])), (hbo, .inl (E.2.1, n, .inl bo))] := hD
  refine lv_aload_n hx hb dX4_fill_5 rfl (lv_at hl 0 rfl) ?_
  refine lv_iconst (v := 0) hx hb dX4_fill_6 (by decide) ?_
  refine va_put (D := E.1) (ci := 4) (v := .int 0) (ty := .int) (C := RX4) (T := TX4) (N := 3) hx hb hts ux_X4' tyX4 tyX4_ok nmX4 hown hK.1 hP hD hS 0 rfl rfl 2 (by decide) (hts _ (ta_cons _ mw_137)) (fun _ h9 => h9) rfl (by decide +kernel) rfl rfl (Nat.le_of_ble_eq_true rfl) dX4_fill_7 (fun H locs hP hD hS => ?_)
  have hP : va_P E.1 classes [(hwt, .inr (4, [.ref hrw, .int 0, .int 0])), (hrw, .inl (E.2.1, n, .inl rw)), (hgr, .inr (0, [.ref hbo, .int cnt, .ref hrg])), (hbo, .inl (E.2.1, n, .inl bo))] H := hP
  have hD : va_D AM [(hwt, .inr (4, [.ref hrw, .int 0, .int 0])), (hrw, .inl (E.2.1, n, .inl rw)), (hgr, .inr (0, [.ref hbo, .int cnt, .ref hrg])), (hbo, .inl (E.2.1, n, .inl bo))] := hD
  refine lv_iconst (v := 0) hx hb dX4_fill_10 (by decide) ?_
  refine lv_istore_n (lv' := [(3, .int 0), (0, .ref hwt), (1, .ref hgr), (2, .int b)]) hx hb dX4_fill_11 rfl hl (by decide) rfl (fun ls hl => ?_)
  refine W.loop (σ := (Nat) × (Nat → Int32)) (fun a H locs ls => match a with | (i, g) => va_P E.1 classes [(hwt, .inr (4, [.ref hrw, .int 0, .int (nI (memB bo b i).length)])), (hrw, .inl (E.2.1, n, .inl g)), (hgr, .inr (0, [.ref hbo, .int cnt, .ref hrg])), (hbo, .inl (E.2.1, n, .inl bo))] H ∧ va_D AM [(hwt, .inr (4, [.ref hrw, .int 0, .int (nI (memB bo b i).length)])), (hrw, .inl (E.2.1, n, .inl g)), (hgr, .inr (0, [.ref hbo, .int cnt, .ref hrg])), (hbo, .inl (E.2.1, n, .inl bo))] ∧ va_S AM sM.heap H locs ∧ lv_has ls 4 [(3, .int (nI i)), (0, .ref hwt), (1, .ref hgr), (2, .int b)] ∧ (i ≤ n) ∧ (RowIs g 0 (memB bo b i))) (fun a => match a with | (i, g) => n - i) (0, rw) ⟨hP.sub [0, 1, 2, 3] rfl, hD.sub [0, 1, 2, 3] (by decide) rfl, hS, lv_sub hl [0, 1, 2, 3] rfl, Nat.zero_le _, row_nil⟩ ?_
  intro a H locs ls hI ih12
  obtain ⟨i, g⟩ := a
  obtain ⟨hP, hD, hS, hl, hi, p1⟩ := hI
  have hP : va_P E.1 classes [(hwt, .inr (4, [.ref hrw, .int 0, .int (nI (memB bo b i).length)])), (hrw, .inl (E.2.1, n, .inl g)), (hgr, .inr (0, [.ref hbo, .int cnt, .ref hrg])), (hbo, .inl (E.2.1, n, .inl bo))] H := hP
  have hD : va_D AM [(hwt, .inr (4, [.ref hrw, .int 0, .int (nI (memB bo b i).length)])), (hrw, .inl (E.2.1, n, .inl g)), (hgr, .inr (0, [.ref hbo, .int cnt, .ref hrg])), (hbo, .inl (E.2.1, n, .inl bo))] := hD
  have hl : lv_has ls 4 [(3, .int (nI i)), (0, .ref hwt), (1, .ref hgr), (2, .int b)] := hl
  have hi : i ≤ n := hi
  have p1 : RowIs g 0 (memB bo b i) := p1
  refine lv_iload_n hx hb dX4_fill_12 rfl (lv_at hl 0 rfl) ?_
  refine lv_aload_n hx hb dX4_fill_13 rfl (lv_at hl 1 rfl) ?_
  refine va_get (D := E.1) (ci := 4) (v := .ref hrw) (C := RX4) (T := TX4) (N := 3) hx hb hts ux_X4' hown hK.1 hP 0 rfl rfl 0 (by decide) (hts _ (ta_cons _ mw_135)) (fun _ h9 => h9) rfl dX4_fill_14 ?_
  refine va_alen (v := nI n) hx hb hK.1 hP 1 0 rfl rfl rfl dX4_fill_17 ?_
  refine lv_icmp_ge (tgt := 57) hx hb dX4_fill_18 (by decide) (fun c_18 => ?_) (fun c_18 => ?_)
  · have c_18 : n ≤ i := (nI_leI (by omega) (by omega)).mp c_18
    have e9 : i = n := by omega
    subst e9
    refine lv_aload_n hx hb dX4_fill_57 rfl (lv_at hl 1 rfl) ?_
    refine va_get (D := E.1) (ci := 4) (v := .int (nI (memB bo b i).length)) (C := RX4) (T := TX4) (N := 3) hx hb hts ux_X4' hown hK.1 hP 0 rfl rfl 2 (by decide) (hts _ (ta_cons _ mw_137)) (fun _ h9 => h9) rfl dX4_fill_58 ?_
    exact Ri hx hb hr hlocks hP hD hS g [0, 1, 2, 3] rfl rfl (⟨rfl, p1⟩) (Nat.le_of_ble_eq_true rfl) (Nat.le_of_ble_eq_true rfl) dX4_fill_61
  · have c_18 : i < n := by
      rcases Nat.lt_or_ge i n with q | q
      · exact q
      · exact absurd ((nI_leI (by omega) (by omega)).mpr q) c_18
    refine lv_aload_n hx hb dX4_fill_21 rfl (lv_at hl 2 rfl) ?_
    refine va_get (D := E.1) (ci := 0) (v := .ref hbo) (C := RX0) (T := TX0) (N := 3) hx hb hts ux_X0' hown hK.1 hP 2 rfl rfl 0 (by decide) (hts _ (ta_cons _ mw_96)) (fun _ h9 => h9) rfl dX4_fill_22 ?_
    refine lv_iload_n hx hb dX4_fill_25 rfl (lv_at hl 0 rfl) ?_
    refine ia_i i hx hb hK hP 3 rfl (by first | assumption | omega) (by omega) dX4_fill_26 ?_
    refine lv_iload_n hx hb dX4_fill_27 rfl (lv_at hl 3 rfl) ?_
    refine lv_icmp_ne (tgt := 51) hx hb dX4_fill_28 (by decide) (fun c_28 => ?_) (fun c_28 => ?_)
    · have e8 := memB_out c_28
      rw [← e8] at hP hD
      refine lv_iinc (v := nI (i + 1)) (lv' := [(3, .int (nI (i + 1))), (0, .ref hwt), (1, .ref hgr), (2, .int b)]) hx hb dX4_fill_51 hl (k := 0) rfl (nI_1 i) (by decide) rfl (fun ls hl => ?_)
      refine lv_goto (tgt := 12) hx hb dX4_fill_54 (by decide) ?_
      exact ih12 (i + 1, g) _ _ _ ⟨hP.sub [0, 1, 2, 3] rfl, hD.sub [0, 1, 2, 3] (by decide) rfl, hS, lv_sub hl [0, 1, 2, 3] rfl, by omega, by rw [e8]; exact p1⟩ (by show n - (i + 1) < n - i; omega)
    · have e8 := memB_in c_28
      have e7 := memB_le (bo := bo) (b := b) i
      refine lv_aload_n hx hb dX4_fill_31 rfl (lv_at hl 1 rfl) ?_
      refine va_get (D := E.1) (ci := 4) (v := .ref hrw) (C := RX4) (T := TX4) (N := 3) hx hb hts ux_X4' hown hK.1 hP 0 rfl rfl 0 (by decide) (hts _ (ta_cons _ mw_135)) (fun _ h9 => h9) rfl dX4_fill_32 ?_
      refine lv_aload_n hx hb dX4_fill_35 rfl (lv_at hl 1 rfl) ?_
      refine va_get (D := E.1) (ci := 4) (v := .int (nI (memB bo b i).length)) (C := RX4) (T := TX4) (N := 3) hx hb hts ux_X4' hown hK.1 hP 0 rfl rfl 2 (by decide) (hts _ (ta_cons _ mw_137)) (fun _ h9 => h9) rfl dX4_fill_36 ?_
      refine lv_iload_n hx hb dX4_fill_39 rfl (lv_at hl 0 rfl) ?_
      refine as_i ((memB bo b i).length) hx hb hK hP hD hS 1 rfl (by omega) (by omega) dX4_fill_40 (fun H locs hP hD hS => ?_)
      have hP : va_P E.1 classes [(hwt, .inr (4, [.ref hrw, .int 0, .int (nI (memB bo b i).length)])), (hrw, .inl (E.2.1, n, .inl (upd g ((memB bo b i).length) (nI i)))), (hgr, .inr (0, [.ref hbo, .int cnt, .ref hrg])), (hbo, .inl (E.2.1, n, .inl bo))] H := hP
      have hD : va_D AM [(hwt, .inr (4, [.ref hrw, .int 0, .int (nI (memB bo b i).length)])), (hrw, .inl (E.2.1, n, .inl (upd g ((memB bo b i).length) (nI i)))), (hgr, .inr (0, [.ref hbo, .int cnt, .ref hrg])), (hbo, .inl (E.2.1, n, .inl bo))] := hD
      refine lv_aload_n hx hb dX4_fill_41 rfl (lv_at hl 1 rfl) ?_
      refine lv_dup hx hb dX4_fill_42 rfl ?_
      refine va_get (D := E.1) (ci := 4) (v := .int (nI (memB bo b i).length)) (C := RX4) (T := TX4) (N := 3) hx hb hts ux_X4' hown hK.1 hP 0 rfl rfl 2 (by decide) (hts _ (ta_cons _ mw_137)) (fun _ h9 => h9) rfl dX4_fill_43 ?_
      refine lv_iconst (v := 1) hx hb dX4_fill_46 (by decide) ?_
      refine lv_iadd hx hb dX4_fill_47 ?_
      refine tp_i (y := nI (memB bo b (i + 1)).length) (by rw [e8, List.length_append]; exact nI_1 _) ?_
      refine va_put (D := E.1) (ci := 4) (v := .int (nI (memB bo b (i + 1)).length)) (ty := .int) (C := RX4) (T := TX4) (N := 3) hx hb hts ux_X4' tyX4 tyX4_ok nmX4 hown hK.1 hP hD hS 0 rfl rfl 2 (by decide) (hts _ (ta_cons _ mw_137)) (fun _ h9 => h9) rfl (by decide +kernel) rfl rfl (Nat.le_of_ble_eq_true rfl) dX4_fill_48 (fun H locs hP hD hS => ?_)
      have hP : va_P E.1 classes [(hwt, .inr (4, [.ref hrw, .int 0, .int (nI (memB bo b (i + 1)).length)])), (hrw, .inl (E.2.1, n, .inl (upd g ((memB bo b i).length) (nI i)))), (hgr, .inr (0, [.ref hbo, .int cnt, .ref hrg])), (hbo, .inl (E.2.1, n, .inl bo))] H := hP
      have hD : va_D AM [(hwt, .inr (4, [.ref hrw, .int 0, .int (nI (memB bo b (i + 1)).length)])), (hrw, .inl (E.2.1, n, .inl (upd g ((memB bo b i).length) (nI i)))), (hgr, .inr (0, [.ref hbo, .int cnt, .ref hrg])), (hbo, .inl (E.2.1, n, .inl bo))] := hD
      refine lv_iinc (v := nI (i + 1)) (lv' := [(3, .int (nI (i + 1))), (0, .ref hwt), (1, .ref hgr), (2, .int b)]) hx hb dX4_fill_51 hl (k := 0) rfl (nI_1 i) (by decide) rfl (fun ls hl => ?_)
      refine lv_goto (tgt := 12) hx hb dX4_fill_54 (by decide) ?_
      exact ih12 (i + 1, upd g (memB bo b i).length (nI i)) _ _ _ ⟨hP.sub [0, 1, 2, 3] rfl, hD.sub [0, 1, 2, 3] (by decide) rfl, hS, lv_sub hl [0, 1, 2, 3] rfl, by omega, by rw [e8]; exact row_snoc p1⟩ (by show n - (i + 1) < n - i; omega)

set_option maxHeartbeats 4000000 in
set_option maxRecDepth 100000 in
theorem c_take0 (l : Launch) (E : EE) (n : Nat) (hwt : Nat) (hrw : Nat) (f : Nat) (g : Nat) (rw : Nat → Int32) (hf : f < 2 ^ 31) (hg : g ≤ f) : Mi (S := Unit) l E yX4_takeFirst (.code yX4_takeFirst cX4_takeFirst 2 (some .int)) ({ frames := 0, cells := 0, slots := 0, locals := 0 }) [.ref hwt] [(hwt, .inr (4, [.ref hrw, .int (nI f), .int (nI g)])), (hrw, .inl (E.2.1, n, .inl rw))] (fun (ans : Int32) (_ : Unit) => ans = (-1)) (fun u : Unit => [(hwt, .inr (4, [.ref hrw, .int (nI f), .int (nI g)])), (hrw, .inl (E.2.1, n, .inl rw))]) := by
  refine Mi.ofW (by decide) (Nat.le_of_ble_eq_true rfl) ?_
  intro pM eM sM mM bM meM cM AM ls hB hA hP hD hS hl
  obtain ⟨hx, hb, hr, hml, hown, hlocks, hnm, hts, hK⟩ := hB
  have hl : lv_has ls 2 [(0, .ref hwt)] := hl
  refine lv_aload_n hx hb dX4_takeFirst_0 rfl (lv_at hl 0 rfl) ?_
  refine va_get (D := E.1) (ci := 4) (v := .int (nI f)) (C := RX4) (T := TX4) (N := 3) hx hb hts ux_X4' hown hK.1 hP 0 rfl rfl 1 (by decide) (hts _ (ta_cons _ mw_136)) (fun _ h9 => h9) rfl dX4_takeFirst_1 ?_
  refine lv_aload_n hx hb dX4_takeFirst_4 rfl (lv_at hl 0 rfl) ?_
  refine va_get (D := E.1) (ci := 4) (v := .int (nI g)) (C := RX4) (T := TX4) (N := 3) hx hb hts ux_X4' hown hK.1 hP 0 rfl rfl 2 (by decide) (hts _ (ta_cons _ mw_137)) (fun _ h9 => h9) rfl dX4_takeFirst_5 ?_
  refine lv_icmp_lt (tgt := 13) hx hb dX4_takeFirst_8 (by decide) (fun c_8 => ?_) (fun c_8 => ?_)
  · exact absurd ((nI_ltI (by omega) (by omega)).mp c_8) (by omega)
  · refine lv_iconst (v := (-1)) hx hb dX4_takeFirst_11 (by decide) ?_
    exact Ri hx hb hr hlocks hP hD hS () [0, 1] rfl rfl (rfl) (Nat.le_of_ble_eq_true rfl) (Nat.le_of_ble_eq_true rfl) dX4_takeFirst_12

set_option maxHeartbeats 4000000 in
set_option maxRecDepth 100000 in
theorem c_take1 (l : Launch) (E : EE) (n : Nat) (hwt : Nat) (hrw : Nat) (f : Nat) (g : Nat) (rw : Nat → Int32) (hn : n < 2 ^ 31) (hf : f < g) (hg : g ≤ n) : Mi (S := Unit) l E yX4_takeFirst (.code yX4_takeFirst cX4_takeFirst 2 (some .int)) ({ frames := 0, cells := 0, slots := 0, locals := 0 }) [.ref hwt] [(hwt, .inr (4, [.ref hrw, .int (nI f), .int (nI g)])), (hrw, .inl (E.2.1, n, .inl rw))] (fun (ans : Int32) (_ : Unit) => ans = rw f) (fun u : Unit => [(hwt, .inr (4, [.ref hrw, .int (nI (f + 1)), .int (nI g)])), (hrw, .inl (E.2.1, n, .inl rw))]) := by
  refine Mi.ofW (by decide) (Nat.le_of_ble_eq_true rfl) ?_
  intro pM eM sM mM bM meM cM AM ls hB hA hP hD hS hl
  obtain ⟨hx, hb, hr, hml, hown, hlocks, hnm, hts, hK⟩ := hB
  have hl : lv_has ls 2 [(0, .ref hwt)] := hl
  refine lv_aload_n hx hb dX4_takeFirst_0 rfl (lv_at hl 0 rfl) ?_
  refine va_get (D := E.1) (ci := 4) (v := .int (nI f)) (C := RX4) (T := TX4) (N := 3) hx hb hts ux_X4' hown hK.1 hP 0 rfl rfl 1 (by decide) (hts _ (ta_cons _ mw_136)) (fun _ h9 => h9) rfl dX4_takeFirst_1 ?_
  refine lv_aload_n hx hb dX4_takeFirst_4 rfl (lv_at hl 0 rfl) ?_
  refine va_get (D := E.1) (ci := 4) (v := .int (nI g)) (C := RX4) (T := TX4) (N := 3) hx hb hts ux_X4' hown hK.1 hP 0 rfl rfl 2 (by decide) (hts _ (ta_cons _ mw_137)) (fun _ h9 => h9) rfl dX4_takeFirst_5 ?_
  refine lv_icmp_lt (tgt := 13) hx hb dX4_takeFirst_8 (by decide) (fun c_8 => ?_) (fun c_8 => ?_)
  · refine lv_aload_n hx hb dX4_takeFirst_13 rfl (lv_at hl 0 rfl) ?_
    refine va_get (D := E.1) (ci := 4) (v := .ref hrw) (C := RX4) (T := TX4) (N := 3) hx hb hts ux_X4' hown hK.1 hP 0 rfl rfl 0 (by decide) (hts _ (ta_cons _ mw_135)) (fun _ h9 => h9) rfl dX4_takeFirst_14 ?_
    refine lv_aload_n hx hb dX4_takeFirst_17 rfl (lv_at hl 0 rfl) ?_
    refine va_get (D := E.1) (ci := 4) (v := .int (nI f)) (C := RX4) (T := TX4) (N := 3) hx hb hts ux_X4' hown hK.1 hP 0 rfl rfl 1 (by decide) (hts _ (ta_cons _ mw_136)) (fun _ h9 => h9) rfl dX4_takeFirst_18 ?_
    refine ia_i f hx hb hK hP 1 rfl (by first | assumption | omega) (by omega) dX4_takeFirst_21 ?_
    refine lv_istore_n (lv' := [(1, .int (rw f)), (0, .ref hwt)]) hx hb dX4_takeFirst_22 rfl hl (by decide) rfl (fun ls hl => ?_)
    refine lv_aload_n hx hb dX4_takeFirst_23 rfl (lv_at hl 1 rfl) ?_
    refine lv_dup hx hb dX4_takeFirst_24 rfl ?_
    refine va_get (D := E.1) (ci := 4) (v := .int (nI f)) (C := RX4) (T := TX4) (N := 3) hx hb hts ux_X4' hown hK.1 hP 0 rfl rfl 1 (by decide) (hts _ (ta_cons _ mw_136)) (fun _ h9 => h9) rfl dX4_takeFirst_25 ?_
    refine lv_iconst (v := 1) hx hb dX4_takeFirst_28 (by decide) ?_
    refine lv_iadd hx hb dX4_takeFirst_29 ?_
    refine tp_i (y := nI (f + 1)) (nI_1 f) ?_
    refine va_put (D := E.1) (ci := 4) (v := .int (nI (f + 1))) (ty := .int) (C := RX4) (T := TX4) (N := 3) hx hb hts ux_X4' tyX4 tyX4_ok nmX4 hown hK.1 hP hD hS 0 rfl rfl 1 (by decide) (hts _ (ta_cons _ mw_136)) (fun _ h9 => h9) rfl (by decide +kernel) rfl rfl (Nat.le_of_ble_eq_true rfl) dX4_takeFirst_30 (fun H locs hP hD hS => ?_)
    have hP : va_P E.1 classes [(hwt, .inr (4, [.ref hrw, .int (nI (f + 1)), .int (nI g)])), (hrw, .inl (E.2.1, n, .inl rw))] H := hP
    have hD : va_D AM [(hwt, .inr (4, [.ref hrw, .int (nI (f + 1)), .int (nI g)])), (hrw, .inl (E.2.1, n, .inl rw))] := hD
    refine lv_iload_n hx hb dX4_takeFirst_33 rfl (lv_at hl 0 rfl) ?_
    exact Ri hx hb hr hlocks hP hD hS () [0, 1] rfl rfl (rfl) (Nat.le_of_ble_eq_true rfl) (Nat.le_of_ble_eq_true rfl) dX4_takeFirst_34
  · exact absurd ((nI_ltI (by omega) (by omega)).mpr hf) c_8

set_option maxHeartbeats 4000000 in
set_option maxRecDepth 100000 in
theorem c_put1 (l : Launch) (E : EE) (n : Nat) (hwt : Nat) (hrw : Nat) (f : Nat) (en : Int32) (x : Int32) (rw : Nat → Int32) (hn : n < 2 ^ 31) (hf : f < n) : Mv (S := Unit) l E yX4_putFirst (.code yX4_putFirst cX4_putFirst 2 none) ({ frames := 0, cells := 0, slots := 0, locals := 0 }) [.ref hwt, .int x] [(hwt, .inr (4, [.ref hrw, .int (nI (f + 1)), .int en])), (hrw, .inl (E.2.1, n, .inl rw))] (fun _ : Unit => True) (fun u : Unit => [(hwt, .inr (4, [.ref hrw, .int (nI f), .int en])), (hrw, .inl (E.2.1, n, .inl (upd rw f x)))]) := by
  refine Mv.ofW (by decide) (Nat.le_of_ble_eq_true rfl) ?_
  intro pM eM sM mM bM meM cM AM ls hB hA hP hD hS hl
  obtain ⟨hx, hb, hr, hml, hown, hlocks, hnm, hts, hK⟩ := hB
  have hl : lv_has ls 2 [(0, .ref hwt), (1, .int x)] := hl
  refine lv_aload_n hx hb dX4_putFirst_0 rfl (lv_at hl 0 rfl) ?_
  refine va_get (D := E.1) (ci := 4) (v := .int (nI (f + 1))) (C := RX4) (T := TX4) (N := 3) hx hb hts ux_X4' hown hK.1 hP 0 rfl rfl 1 (by decide) (hts _ (ta_cons _ mw_136)) (fun _ h9 => h9) rfl dX4_putFirst_1 ?_
  refine lv_if_le (tgt := 27) hx hb dX4_putFirst_4 (by decide) (fun c_4 => ?_) (fun c_4 => ?_)
  · exact absurd c_4 (nI_nle (by omega) (by omega))
  · refine lv_aload_n hx hb dX4_putFirst_7 rfl (lv_at hl 0 rfl) ?_
    refine lv_dup hx hb dX4_putFirst_8 rfl ?_
    refine va_get (D := E.1) (ci := 4) (v := .int (nI (f + 1))) (C := RX4) (T := TX4) (N := 3) hx hb hts ux_X4' hown hK.1 hP 0 rfl rfl 1 (by decide) (hts _ (ta_cons _ mw_136)) (fun _ h9 => h9) rfl dX4_putFirst_9 ?_
    refine lv_iconst (v := 1) hx hb dX4_putFirst_12 (by decide) ?_
    refine lv_isub hx hb dX4_putFirst_13 ?_
    refine tp_i (y := nI f) (nI_pred f) ?_
    refine va_put (D := E.1) (ci := 4) (v := .int (nI f)) (ty := .int) (C := RX4) (T := TX4) (N := 3) hx hb hts ux_X4' tyX4 tyX4_ok nmX4 hown hK.1 hP hD hS 0 rfl rfl 1 (by decide) (hts _ (ta_cons _ mw_136)) (fun _ h9 => h9) rfl (by decide +kernel) rfl rfl (Nat.le_of_ble_eq_true rfl) dX4_putFirst_14 (fun H locs hP hD hS => ?_)
    have hP : va_P E.1 classes [(hwt, .inr (4, [.ref hrw, .int (nI f), .int en])), (hrw, .inl (E.2.1, n, .inl rw))] H := hP
    have hD : va_D AM [(hwt, .inr (4, [.ref hrw, .int (nI f), .int en])), (hrw, .inl (E.2.1, n, .inl rw))] := hD
    refine lv_aload_n hx hb dX4_putFirst_17 rfl (lv_at hl 0 rfl) ?_
    refine va_get (D := E.1) (ci := 4) (v := .ref hrw) (C := RX4) (T := TX4) (N := 3) hx hb hts ux_X4' hown hK.1 hP 0 rfl rfl 0 (by decide) (hts _ (ta_cons _ mw_135)) (fun _ h9 => h9) rfl dX4_putFirst_18 ?_
    refine lv_aload_n hx hb dX4_putFirst_21 rfl (lv_at hl 0 rfl) ?_
    refine va_get (D := E.1) (ci := 4) (v := .int (nI f)) (C := RX4) (T := TX4) (N := 3) hx hb hts ux_X4' hown hK.1 hP 0 rfl rfl 1 (by decide) (hts _ (ta_cons _ mw_136)) (fun _ h9 => h9) rfl dX4_putFirst_22 ?_
    refine lv_iload_n hx hb dX4_putFirst_25 rfl (lv_at hl 1 rfl) ?_
    refine as_i f hx hb hK hP hD hS 1 rfl (by first | assumption | omega) (by omega) dX4_putFirst_26 (fun H locs hP hD hS => ?_)
    have hP : va_P E.1 classes [(hwt, .inr (4, [.ref hrw, .int (nI f), .int en])), (hrw, .inl (E.2.1, n, .inl (upd rw f x)))] H := hP
    have hD : va_D AM [(hwt, .inr (4, [.ref hrw, .int (nI f), .int en])), (hrw, .inl (E.2.1, n, .inl (upd rw f x)))] := hD
    exact Rv hx hb hr hlocks hP hD hS () [0, 1] rfl rfl (trivial) (Nat.le_of_ble_eq_true rfl) (Nat.le_of_ble_eq_true rfl) dX4_putFirst_27

set_option maxHeartbeats 4000000 in
set_option maxRecDepth 100000 in
theorem c_gather (l : Launch) (E : EE) (hcr : Nat) (hso : Nat) (hsm : Nat) (hmd : Nat) (hlv : Nat) (lc : Int32) (so : Nat → Int32) (sm : Nat → Int32) (lv : Nat → Int32) (md : Nat → Int64) (w : Nat) (hw16 : w ≤ 16) : Mv (S := (Nat → Int32) × (Nat → Int32)) l E yX2_gather (.code yX2_gather cX2_gather 3 none) ({ frames := 0, cells := 0, slots := 0, locals := 0 }) [.ref hcr, .int (nI w)] [(hcr, .inr (2, [.ref hso, .ref hsm, .ref hmd, .int lc, .ref hlv])), (hso, .inl (E.2.1, 16, .inl so)), (hsm, .inl (E.2.1, 16, .inl sm)), (hmd, .inl (E.2.2.1, 16, .inr (.inl md))), (hlv, .inl (E.2.1, 16, .inl lv))] (fun u : (Nat → Int32) × (Nat → Int32) => ∀ j, j < w → u.1 j = -1 ∧ u.2 j = nI j) (fun u : (Nat → Int32) × (Nat → Int32) => [(hcr, .inr (2, [.ref hso, .ref hsm, .ref hmd, .int (nI w), .ref hlv])), (hso, .inl (E.2.1, 16, .inl u.1)), (hsm, .inl (E.2.1, 16, .inl sm)), (hmd, .inl (E.2.2.1, 16, .inr (.inl md))), (hlv, .inl (E.2.1, 16, .inl u.2))]) := by
  refine Mv.ofW (by decide) (Nat.le_of_ble_eq_true rfl) ?_
  intro pM eM sM mM bM meM cM AM ls hB hA hP hD hS hl
  obtain ⟨hx, hb, hr, hml, hown, hlocks, hnm, hts, hK⟩ := hB
  have hl : lv_has ls 3 [(0, .ref hcr), (1, .int (nI w))] := hl
  refine lv_aload_n hx hb dX2_gather_0 rfl (lv_at hl 0 rfl) ?_
  refine lv_iload_n hx hb dX2_gather_1 rfl (lv_at hl 1 rfl) ?_
  refine va_put (D := E.1) (ci := 2) (v := .int (nI w)) (ty := .int) (C := RX2) (T := TX2) (N := 5) hx hb hts ux_X2' tyX2 tyX2_ok nmX2 hown hK.1 hP hD hS 0 rfl rfl 3 (by decide) (hts _ (ta_cons _ mw_157)) (fun _ h9 => h9) rfl (by decide +kernel) rfl rfl (Nat.le_of_ble_eq_true rfl) dX2_gather_2 (fun H locs hP hD hS => ?_)
  have hP : va_P E.1 classes [(hcr, .inr (2, [.ref hso, .ref hsm, .ref hmd, .int (nI w), .ref hlv])), (hso, .inl (E.2.1, 16, .inl so)), (hsm, .inl (E.2.1, 16, .inl sm)), (hmd, .inl (E.2.2.1, 16, .inr (.inl md))), (hlv, .inl (E.2.1, 16, .inl lv))] H := hP
  have hD : va_D AM [(hcr, .inr (2, [.ref hso, .ref hsm, .ref hmd, .int (nI w), .ref hlv])), (hso, .inl (E.2.1, 16, .inl so)), (hsm, .inl (E.2.1, 16, .inl sm)), (hmd, .inl (E.2.2.1, 16, .inr (.inl md))), (hlv, .inl (E.2.1, 16, .inl lv))] := hD
  refine lv_iconst (v := 0) hx hb dX2_gather_5 (by decide) ?_
  refine lv_istore_n (lv' := [(2, .int 0), (0, .ref hcr), (1, .int (nI w))]) hx hb dX2_gather_6 rfl hl (by decide) rfl (fun ls hl => ?_)
  refine W.loop (σ := (Nat) × (Nat → Int32) × (Nat → Int32)) (fun a H locs ls => match a with | (i, a, b) => va_P E.1 classes [(hcr, .inr (2, [.ref hso, .ref hsm, .ref hmd, .int (nI w), .ref hlv])), (hso, .inl (E.2.1, 16, .inl a)), (hsm, .inl (E.2.1, 16, .inl sm)), (hmd, .inl (E.2.2.1, 16, .inr (.inl md))), (hlv, .inl (E.2.1, 16, .inl b))] H ∧ va_D AM [(hcr, .inr (2, [.ref hso, .ref hsm, .ref hmd, .int (nI w), .ref hlv])), (hso, .inl (E.2.1, 16, .inl a)), (hsm, .inl (E.2.1, 16, .inl sm)), (hmd, .inl (E.2.2.1, 16, .inr (.inl md))), (hlv, .inl (E.2.1, 16, .inl b))] ∧ va_S AM sM.heap H locs ∧ lv_has ls 3 [(2, .int (nI i)), (0, .ref hcr), (1, .int (nI w))] ∧ (i ≤ w) ∧ (∀ j, j < i → a j = -1 ∧ b j = nI j)) (fun a => match a with | (i, a, b) => w - i) (0, so, lv) ⟨hP.sub [0, 1, 2, 3, 4] rfl, hD.sub [0, 1, 2, 3, 4] (by decide) rfl, hS, lv_sub hl [0, 1, 2] rfl, Nat.zero_le _, fun j h => absurd h (Nat.not_lt_zero j)⟩ ?_
  intro a H locs ls hI ih7
  obtain ⟨i, a, b⟩ := a
  obtain ⟨hP, hD, hS, hl, hi, p1⟩ := hI
  have hP : va_P E.1 classes [(hcr, .inr (2, [.ref hso, .ref hsm, .ref hmd, .int (nI w), .ref hlv])), (hso, .inl (E.2.1, 16, .inl a)), (hsm, .inl (E.2.1, 16, .inl sm)), (hmd, .inl (E.2.2.1, 16, .inr (.inl md))), (hlv, .inl (E.2.1, 16, .inl b))] H := hP
  have hD : va_D AM [(hcr, .inr (2, [.ref hso, .ref hsm, .ref hmd, .int (nI w), .ref hlv])), (hso, .inl (E.2.1, 16, .inl a)), (hsm, .inl (E.2.1, 16, .inl sm)), (hmd, .inl (E.2.2.1, 16, .inr (.inl md))), (hlv, .inl (E.2.1, 16, .inl b))] := hD
  have hl : lv_has ls 3 [(2, .int (nI i)), (0, .ref hcr), (1, .int (nI w))] := hl
  have hi : i ≤ w := hi
  have p1 : ∀ j, j < i → a j = -1 ∧ b j = nI j := p1
  refine lv_iload_n hx hb dX2_gather_7 rfl (lv_at hl 0 rfl) ?_
  refine lv_iload_n hx hb dX2_gather_8 rfl (lv_at hl 2 rfl) ?_
  refine lv_icmp_ge (tgt := 32) hx hb dX2_gather_9 (by decide) (fun c_9 => ?_) (fun c_9 => ?_)
  · have c_9 : w ≤ i := (nI_leI (by omega) (by omega)).mp c_9
    have e9 : i = w := by omega
    rw [e9] at p1
    exact Rv hx hb hr hlocks hP hD hS (a, b) [0, 1, 2, 3, 4] rfl rfl (p1) (Nat.le_of_ble_eq_true rfl) (Nat.le_of_ble_eq_true rfl) dX2_gather_32
  · have c_9 : i < w := by
      rcases Nat.lt_or_ge i w with q | q
      · exact q
      · exact absurd ((nI_leI (by omega) (by omega)).mpr q) c_9
    refine lv_aload_n hx hb dX2_gather_12 rfl (lv_at hl 1 rfl) ?_
    refine va_get (D := E.1) (ci := 2) (v := .ref hlv) (C := RX2) (T := TX2) (N := 5) hx hb hts ux_X2' hown hK.1 hP 0 rfl rfl 4 (by decide) (hts _ (ta_cons _ mw_159)) (fun _ h9 => h9) rfl dX2_gather_13 ?_
    refine lv_iload_n hx hb dX2_gather_16 rfl (lv_at hl 0 rfl) ?_
    refine lv_iload_n hx hb dX2_gather_17 rfl (lv_at hl 0 rfl) ?_
    refine as_i i hx hb hK hP hD hS 4 rfl (by first | assumption | omega) (by decide) dX2_gather_18 (fun H locs hP hD hS => ?_)
    have hP : va_P E.1 classes [(hcr, .inr (2, [.ref hso, .ref hsm, .ref hmd, .int (nI w), .ref hlv])), (hso, .inl (E.2.1, 16, .inl a)), (hsm, .inl (E.2.1, 16, .inl sm)), (hmd, .inl (E.2.2.1, 16, .inr (.inl md))), (hlv, .inl (E.2.1, 16, .inl (upd b i (nI i))))] H := hP
    have hD : va_D AM [(hcr, .inr (2, [.ref hso, .ref hsm, .ref hmd, .int (nI w), .ref hlv])), (hso, .inl (E.2.1, 16, .inl a)), (hsm, .inl (E.2.1, 16, .inl sm)), (hmd, .inl (E.2.2.1, 16, .inr (.inl md))), (hlv, .inl (E.2.1, 16, .inl (upd b i (nI i))))] := hD
    refine lv_aload_n hx hb dX2_gather_19 rfl (lv_at hl 1 rfl) ?_
    refine va_get (D := E.1) (ci := 2) (v := .ref hso) (C := RX2) (T := TX2) (N := 5) hx hb hts ux_X2' hown hK.1 hP 0 rfl rfl 0 (by decide) (hts _ (ta_cons _ mw_151)) (fun _ h9 => h9) rfl dX2_gather_20 ?_
    refine lv_iload_n hx hb dX2_gather_23 rfl (lv_at hl 0 rfl) ?_
    refine lv_iconst (v := (-1)) hx hb dX2_gather_24 (by decide) ?_
    refine as_i i hx hb hK hP hD hS 1 rfl (by first | assumption | omega) (by decide) dX2_gather_25 (fun H locs hP hD hS => ?_)
    have hP : va_P E.1 classes [(hcr, .inr (2, [.ref hso, .ref hsm, .ref hmd, .int (nI w), .ref hlv])), (hso, .inl (E.2.1, 16, .inl (upd a i (-1)))), (hsm, .inl (E.2.1, 16, .inl sm)), (hmd, .inl (E.2.2.1, 16, .inr (.inl md))), (hlv, .inl (E.2.1, 16, .inl (upd b i (nI i))))] H := hP
    have hD : va_D AM [(hcr, .inr (2, [.ref hso, .ref hsm, .ref hmd, .int (nI w), .ref hlv])), (hso, .inl (E.2.1, 16, .inl (upd a i (-1)))), (hsm, .inl (E.2.1, 16, .inl sm)), (hmd, .inl (E.2.2.1, 16, .inr (.inl md))), (hlv, .inl (E.2.1, 16, .inl (upd b i (nI i))))] := hD
    refine lv_iinc (v := nI (i + 1)) (lv' := [(2, .int (nI (i + 1))), (0, .ref hcr), (1, .int (nI w))]) hx hb dX2_gather_26 hl (k := 0) rfl (nI_1 i) (by decide) rfl (fun ls hl => ?_)
    refine lv_goto (tgt := 7) hx hb dX2_gather_29 (by decide) ?_
    exact ih7 (i + 1, upd a i (-1), upd b i (nI i)) _ _ _ ⟨hP.sub [0, 1, 2, 3, 4] rfl, hD.sub [0, 1, 2, 3, 4] (by decide) rfl, hS, lv_sub hl [0, 1, 2] rfl, by omega, fun j hj => by
        by_cases q : j = i
        · subst q; exact ⟨pk_us, pk_us⟩
        · rw [pk_un q, pk_un q]; exact p1 j (by omega)⟩ (by show w - (i + 1) < w - i; omega)

set_option maxHeartbeats 4000000 in
set_option maxRecDepth 100000 in
theorem c_liveAt (l : Launch) (E : EE) (hcr : Nat) (hso : Nat) (hsm : Nat) (hmd : Nat) (hlv : Nat) (lc : Int32) (so : Nat → Int32) (sm : Nat → Int32) (lv : Nat → Int32) (md : Nat → Int64) (k : Nat) (hk : k < 16) : Mi (S := Unit) l E yX2_liveAt (.code yX2_liveAt cX2_liveAt 2 (some .int)) ({ frames := 0, cells := 0, slots := 0, locals := 0 }) [.ref hcr, .int (nI k)] [(hcr, .inr (2, [.ref hso, .ref hsm, .ref hmd, .int lc, .ref hlv])), (hso, .inl (E.2.1, 16, .inl so)), (hsm, .inl (E.2.1, 16, .inl sm)), (hmd, .inl (E.2.2.1, 16, .inr (.inl md))), (hlv, .inl (E.2.1, 16, .inl lv))] (fun (ans : Int32) (_ : Unit) => ans = lv k) (fun u : Unit => [(hcr, .inr (2, [.ref hso, .ref hsm, .ref hmd, .int lc, .ref hlv])), (hso, .inl (E.2.1, 16, .inl so)), (hsm, .inl (E.2.1, 16, .inl sm)), (hmd, .inl (E.2.2.1, 16, .inr (.inl md))), (hlv, .inl (E.2.1, 16, .inl lv))]) := by
  refine Mi.ofW (by decide) (Nat.le_of_ble_eq_true rfl) ?_
  intro pM eM sM mM bM meM cM AM ls hB hA hP hD hS hl
  obtain ⟨hx, hb, hr, hml, hown, hlocks, hnm, hts, hK⟩ := hB
  have hl : lv_has ls 2 [(0, .ref hcr), (1, .int (nI k))] := hl
  refine lv_aload_n hx hb dX2_liveAt_0 rfl (lv_at hl 0 rfl) ?_
  refine va_get (D := E.1) (ci := 2) (v := .ref hlv) (C := RX2) (T := TX2) (N := 5) hx hb hts ux_X2' hown hK.1 hP 0 rfl rfl 4 (by decide) (hts _ (ta_cons _ mw_159)) (fun _ h9 => h9) rfl dX2_liveAt_1 ?_
  refine lv_iload_n hx hb dX2_liveAt_4 rfl (lv_at hl 1 rfl) ?_
  refine ia_i k hx hb hK hP 4 rfl (by first | assumption | omega) (by decide) dX2_liveAt_5 ?_
  exact Ri hx hb hr hlocks hP hD hS () [0, 1, 2, 3, 4] rfl rfl (rfl) (Nat.le_of_ble_eq_true rfl) (Nat.le_of_ble_eq_true rfl) dX2_liveAt_6

set_option maxHeartbeats 4000000 in
set_option maxRecDepth 100000 in
theorem c_give (l : Launch) (E : EE) (hcr : Nat) (hso : Nat) (hsm : Nat) (hmd : Nat) (hlv : Nat) (lc : Int32) (so : Nat → Int32) (sm : Nat → Int32) (lv : Nat → Int32) (md : Nat → Int64) (w : Nat) (x : Int32) (v : Int64) (hw16 : w < 16) : Mv (S := Unit) l E yX2_give (.code yX2_give cX2_give 5 none) ({ frames := 0, cells := 0, slots := 0, locals := 0 }) [.ref hcr, .int (nI w), .int x, .long v] [(hcr, .inr (2, [.ref hso, .ref hsm, .ref hmd, .int lc, .ref hlv])), (hso, .inl (E.2.1, 16, .inl so)), (hsm, .inl (E.2.1, 16, .inl sm)), (hmd, .inl (E.2.2.1, 16, .inr (.inl md))), (hlv, .inl (E.2.1, 16, .inl lv))] (fun _ : Unit => True) (fun u : Unit => [(hcr, .inr (2, [.ref hso, .ref hsm, .ref hmd, .int lc, .ref hlv])), (hso, .inl (E.2.1, 16, .inl (upd so w x))), (hsm, .inl (E.2.1, 16, .inl (upd sm w 0))), (hmd, .inl (E.2.2.1, 16, .inr (.inl (vp_updL md w v)))), (hlv, .inl (E.2.1, 16, .inl lv))]) := by
  refine Mv.ofW (by decide) (Nat.le_of_ble_eq_true rfl) ?_
  intro pM eM sM mM bM meM cM AM ls hB hA hP hD hS hl
  obtain ⟨hx, hb, hr, hml, hown, hlocks, hnm, hts, hK⟩ := hB
  have hl : lv_has ls 5 [(0, .ref hcr), (1, .int (nI w)), (2, .int x), (3, .long v)] := hl
  refine lv_aload_n hx hb dX2_give_0 rfl (lv_at hl 0 rfl) ?_
  refine va_get (D := E.1) (ci := 2) (v := .ref hso) (C := RX2) (T := TX2) (N := 5) hx hb hts ux_X2' hown hK.1 hP 0 rfl rfl 0 (by decide) (hts _ (ta_cons _ mw_151)) (fun _ h9 => h9) rfl dX2_give_1 ?_
  refine lv_iload_n hx hb dX2_give_4 rfl (lv_at hl 1 rfl) ?_
  refine lv_iload_n hx hb dX2_give_5 rfl (lv_at hl 2 rfl) ?_
  refine as_i w hx hb hK hP hD hS 1 rfl (by first | assumption | omega) (by decide) dX2_give_6 (fun H locs hP hD hS => ?_)
  have hP : va_P E.1 classes [(hcr, .inr (2, [.ref hso, .ref hsm, .ref hmd, .int lc, .ref hlv])), (hso, .inl (E.2.1, 16, .inl (upd so w x))), (hsm, .inl (E.2.1, 16, .inl sm)), (hmd, .inl (E.2.2.1, 16, .inr (.inl md))), (hlv, .inl (E.2.1, 16, .inl lv))] H := hP
  have hD : va_D AM [(hcr, .inr (2, [.ref hso, .ref hsm, .ref hmd, .int lc, .ref hlv])), (hso, .inl (E.2.1, 16, .inl (upd so w x))), (hsm, .inl (E.2.1, 16, .inl sm)), (hmd, .inl (E.2.2.1, 16, .inr (.inl md))), (hlv, .inl (E.2.1, 16, .inl lv))] := hD
  refine lv_aload_n hx hb dX2_give_7 rfl (lv_at hl 0 rfl) ?_
  refine va_get (D := E.1) (ci := 2) (v := .ref hsm) (C := RX2) (T := TX2) (N := 5) hx hb hts ux_X2' hown hK.1 hP 0 rfl rfl 1 (by decide) (hts _ (ta_cons _ mw_153)) (fun _ h9 => h9) rfl dX2_give_8 ?_
  refine lv_iload_n hx hb dX2_give_11 rfl (lv_at hl 1 rfl) ?_
  refine lv_iconst (v := 0) hx hb dX2_give_12 (by decide) ?_
  refine as_i w hx hb hK hP hD hS 2 rfl (by first | assumption | omega) (by decide) dX2_give_13 (fun H locs hP hD hS => ?_)
  have hP : va_P E.1 classes [(hcr, .inr (2, [.ref hso, .ref hsm, .ref hmd, .int lc, .ref hlv])), (hso, .inl (E.2.1, 16, .inl (upd so w x))), (hsm, .inl (E.2.1, 16, .inl (upd sm w 0))), (hmd, .inl (E.2.2.1, 16, .inr (.inl md))), (hlv, .inl (E.2.1, 16, .inl lv))] H := hP
  have hD : va_D AM [(hcr, .inr (2, [.ref hso, .ref hsm, .ref hmd, .int lc, .ref hlv])), (hso, .inl (E.2.1, 16, .inl (upd so w x))), (hsm, .inl (E.2.1, 16, .inl (upd sm w 0))), (hmd, .inl (E.2.2.1, 16, .inr (.inl md))), (hlv, .inl (E.2.1, 16, .inl lv))] := hD
  refine lv_aload_n hx hb dX2_give_14 rfl (lv_at hl 0 rfl) ?_
  refine va_get (D := E.1) (ci := 2) (v := .ref hmd) (C := RX2) (T := TX2) (N := 5) hx hb hts ux_X2' hown hK.1 hP 0 rfl rfl 2 (by decide) (hts _ (ta_cons _ mw_155)) (fun _ h9 => h9) rfl dX2_give_15 ?_
  refine lv_iload_n hx hb dX2_give_18 rfl (lv_at hl 1 rfl) ?_
  refine lv_lload_n hx hb dX2_give_19 rfl (lv_at hl 3 rfl) ?_
  refine as_l w hx hb hK hP hD hS 3 rfl (by first | assumption | omega) (by decide) dX2_give_20 (fun H locs hP hD hS => ?_)
  have hP : va_P E.1 classes [(hcr, .inr (2, [.ref hso, .ref hsm, .ref hmd, .int lc, .ref hlv])), (hso, .inl (E.2.1, 16, .inl (upd so w x))), (hsm, .inl (E.2.1, 16, .inl (upd sm w 0))), (hmd, .inl (E.2.2.1, 16, .inr (.inl (vp_updL md w v)))), (hlv, .inl (E.2.1, 16, .inl lv))] H := hP
  have hD : va_D AM [(hcr, .inr (2, [.ref hso, .ref hsm, .ref hmd, .int lc, .ref hlv])), (hso, .inl (E.2.1, 16, .inl (upd so w x))), (hsm, .inl (E.2.1, 16, .inl (upd sm w 0))), (hmd, .inl (E.2.2.1, 16, .inr (.inl (vp_updL md w v)))), (hlv, .inl (E.2.1, 16, .inl lv))] := hD
  exact Rv hx hb hr hlocks hP hD hS () [0, 1, 2, 3, 4] rfl rfl (trivial) (Nat.le_of_ble_eq_true rfl) (Nat.le_of_ble_eq_true rfl) dX2_give_21

set_option maxHeartbeats 4000000 in
set_option maxRecDepth 100000 in
theorem c_drop (l : Launch) (E : EE) (hcr : Nat) (hso : Nat) (hsm : Nat) (hmd : Nat) (hlv : Nat) (so : Nat → Int32) (sm : Nat → Int32) (lv : Nat → Int32) (md : Nat → Int64) (k : Nat) (L : Nat) (hk : k ≤ L) (hL : L < 16) : Mv (S := Nat → Int32) l E yX2_dropAt (.code yX2_dropAt cX2_dropAt 3 none) ({ frames := 0, cells := 0, slots := 0, locals := 0 }) [.ref hcr, .int (nI k)] [(hcr, .inr (2, [.ref hso, .ref hsm, .ref hmd, .int (nI (L + 1)), .ref hlv])), (hso, .inl (E.2.1, 16, .inl so)), (hsm, .inl (E.2.1, 16, .inl sm)), (hmd, .inl (E.2.2.1, 16, .inr (.inl md))), (hlv, .inl (E.2.1, 16, .inl lv))] (fun u : Nat → Int32 => (∀ j, j < k → u j = lv j) ∧ ∀ j, k ≤ j → j < L → u j = lv (j + 1)) (fun u : Nat → Int32 => [(hcr, .inr (2, [.ref hso, .ref hsm, .ref hmd, .int (nI L), .ref hlv])), (hso, .inl (E.2.1, 16, .inl so)), (hsm, .inl (E.2.1, 16, .inl sm)), (hmd, .inl (E.2.2.1, 16, .inr (.inl md))), (hlv, .inl (E.2.1, 16, .inl u))]) := by
  refine Mv.ofW (by decide) (Nat.le_of_ble_eq_true rfl) ?_
  intro pM eM sM mM bM meM cM AM ls hB hA hP hD hS hl
  obtain ⟨hx, hb, hr, hml, hown, hlocks, hnm, hts, hK⟩ := hB
  have hl : lv_has ls 3 [(0, .ref hcr), (1, .int (nI k))] := hl
  refine lv_aload_n hx hb dX2_dropAt_0 rfl (lv_at hl 0 rfl) ?_
  refine lv_dup hx hb dX2_dropAt_1 rfl ?_
  refine va_get (D := E.1) (ci := 2) (v := .int (nI (L + 1))) (C := RX2) (T := TX2) (N := 5) hx hb hts ux_X2' hown hK.1 hP 0 rfl rfl 3 (by decide) (hts _ (ta_cons _ mw_157)) (fun _ h9 => h9) rfl dX2_dropAt_2 ?_
  refine lv_iconst (v := 1) hx hb dX2_dropAt_5 (by decide) ?_
  refine lv_isub hx hb dX2_dropAt_6 ?_
  refine tp_i (y := nI L) (nI_pred L) ?_
  refine va_put (D := E.1) (ci := 2) (v := .int (nI L)) (ty := .int) (C := RX2) (T := TX2) (N := 5) hx hb hts ux_X2' tyX2 tyX2_ok nmX2 hown hK.1 hP hD hS 0 rfl rfl 3 (by decide) (hts _ (ta_cons _ mw_157)) (fun _ h9 => h9) rfl (by decide +kernel) rfl rfl (Nat.le_of_ble_eq_true rfl) dX2_dropAt_7 (fun H locs hP hD hS => ?_)
  have hP : va_P E.1 classes [(hcr, .inr (2, [.ref hso, .ref hsm, .ref hmd, .int (nI L), .ref hlv])), (hso, .inl (E.2.1, 16, .inl so)), (hsm, .inl (E.2.1, 16, .inl sm)), (hmd, .inl (E.2.2.1, 16, .inr (.inl md))), (hlv, .inl (E.2.1, 16, .inl lv))] H := hP
  have hD : va_D AM [(hcr, .inr (2, [.ref hso, .ref hsm, .ref hmd, .int (nI L), .ref hlv])), (hso, .inl (E.2.1, 16, .inl so)), (hsm, .inl (E.2.1, 16, .inl sm)), (hmd, .inl (E.2.2.1, 16, .inr (.inl md))), (hlv, .inl (E.2.1, 16, .inl lv))] := hD
  refine lv_iload_n hx hb dX2_dropAt_10 rfl (lv_at hl 1 rfl) ?_
  refine lv_istore_n (lv' := [(2, .int (nI k)), (0, .ref hcr), (1, .int (nI k))]) hx hb dX2_dropAt_11 rfl hl (by decide) rfl (fun ls hl => ?_)
  refine W.loop (σ := (Nat) × (Nat → Int32)) (fun a H locs ls => match a with | (i, g) => va_P E.1 classes [(hcr, .inr (2, [.ref hso, .ref hsm, .ref hmd, .int (nI L), .ref hlv])), (hso, .inl (E.2.1, 16, .inl so)), (hsm, .inl (E.2.1, 16, .inl sm)), (hmd, .inl (E.2.2.1, 16, .inr (.inl md))), (hlv, .inl (E.2.1, 16, .inl g))] H ∧ va_D AM [(hcr, .inr (2, [.ref hso, .ref hsm, .ref hmd, .int (nI L), .ref hlv])), (hso, .inl (E.2.1, 16, .inl so)), (hsm, .inl (E.2.1, 16, .inl sm)), (hmd, .inl (E.2.2.1, 16, .inr (.inl md))), (hlv, .inl (E.2.1, 16, .inl g))] ∧ va_S AM sM.heap H locs ∧ lv_has ls 3 [(2, .int (nI i)), (0, .ref hcr), (1, .int (nI k))] ∧ (k ≤ i ∧ i ≤ L) ∧ (∀ j, j < k → g j = lv j) ∧ (∀ j, k ≤ j → j < i → g j = lv (j + 1)) ∧ (∀ j, i ≤ j → g j = lv j)) (fun a => match a with | (i, g) => L - i) (k, lv) ⟨hP.sub [0, 1, 2, 3, 4] rfl, hD.sub [0, 1, 2, 3, 4] (by decide) rfl, hS, lv_sub hl [0, 1, 2] rfl, ⟨Nat.le_refl _, hk⟩, fun j _ => rfl, fun j h1 h2 => absurd h2 (by omega), fun j _ => rfl⟩ ?_
  intro a H locs ls hI ih12
  obtain ⟨i, g⟩ := a
  obtain ⟨hP, hD, hS, hl, hi, p1, p2, p3⟩ := hI
  have hP : va_P E.1 classes [(hcr, .inr (2, [.ref hso, .ref hsm, .ref hmd, .int (nI L), .ref hlv])), (hso, .inl (E.2.1, 16, .inl so)), (hsm, .inl (E.2.1, 16, .inl sm)), (hmd, .inl (E.2.2.1, 16, .inr (.inl md))), (hlv, .inl (E.2.1, 16, .inl g))] H := hP
  have hD : va_D AM [(hcr, .inr (2, [.ref hso, .ref hsm, .ref hmd, .int (nI L), .ref hlv])), (hso, .inl (E.2.1, 16, .inl so)), (hsm, .inl (E.2.1, 16, .inl sm)), (hmd, .inl (E.2.2.1, 16, .inr (.inl md))), (hlv, .inl (E.2.1, 16, .inl g))] := hD
  have hl : lv_has ls 3 [(2, .int (nI i)), (0, .ref hcr), (1, .int (nI k))] := hl
  have hi : k ≤ i ∧ i ≤ L := hi
  have p1 : ∀ j, j < k → g j = lv j := p1
  have p2 : ∀ j, k ≤ j → j < i → g j = lv (j + 1) := p2
  have p3 : ∀ j, i ≤ j → g j = lv j := p3
  refine lv_iload_n hx hb dX2_dropAt_12 rfl (lv_at hl 0 rfl) ?_
  refine lv_aload_n hx hb dX2_dropAt_13 rfl (lv_at hl 1 rfl) ?_
  refine va_get (D := E.1) (ci := 2) (v := .int (nI L)) (C := RX2) (T := TX2) (N := 5) hx hb hts ux_X2' hown hK.1 hP 0 rfl rfl 3 (by decide) (hts _ (ta_cons _ mw_157)) (fun _ h9 => h9) rfl dX2_dropAt_14 ?_
  refine lv_icmp_ge (tgt := 40) hx hb dX2_dropAt_17 (by decide) (fun c_17 => ?_) (fun c_17 => ?_)
  · have c_17 : L ≤ i := (nI_leI (by omega) (by omega)).mp c_17
    have e9 : i = L := by omega
    rw [e9] at p2
    exact Rv hx hb hr hlocks hP hD hS g [0, 1, 2, 3, 4] rfl rfl (⟨p1, p2⟩) (Nat.le_of_ble_eq_true rfl) (Nat.le_of_ble_eq_true rfl) dX2_dropAt_40
  · have c_17 : i < L := by
      rcases Nat.lt_or_ge i L with q | q
      · exact q
      · exact absurd ((nI_leI (by omega) (by omega)).mpr q) c_17
    refine lv_aload_n hx hb dX2_dropAt_20 rfl (lv_at hl 1 rfl) ?_
    refine va_get (D := E.1) (ci := 2) (v := .ref hlv) (C := RX2) (T := TX2) (N := 5) hx hb hts ux_X2' hown hK.1 hP 0 rfl rfl 4 (by decide) (hts _ (ta_cons _ mw_159)) (fun _ h9 => h9) rfl dX2_dropAt_21 ?_
    refine lv_iload_n hx hb dX2_dropAt_24 rfl (lv_at hl 0 rfl) ?_
    refine lv_aload_n hx hb dX2_dropAt_25 rfl (lv_at hl 1 rfl) ?_
    refine va_get (D := E.1) (ci := 2) (v := .ref hlv) (C := RX2) (T := TX2) (N := 5) hx hb hts ux_X2' hown hK.1 hP 0 rfl rfl 4 (by decide) (hts _ (ta_cons _ mw_159)) (fun _ h9 => h9) rfl dX2_dropAt_26 ?_
    refine lv_iload_n hx hb dX2_dropAt_29 rfl (lv_at hl 0 rfl) ?_
    refine lv_iconst (v := 1) hx hb dX2_dropAt_30 (by decide) ?_
    refine lv_iadd hx hb dX2_dropAt_31 ?_
    refine tp_i (y := nI (i + 1)) (nI_1 i) ?_
    refine ia_i (i + 1) hx hb hK hP 4 rfl (by first | assumption | omega) (by decide) dX2_dropAt_32 ?_
    refine as_i i hx hb hK hP hD hS 4 rfl (by first | assumption | omega) (by decide) dX2_dropAt_33 (fun H locs hP hD hS => ?_)
    have hP : va_P E.1 classes [(hcr, .inr (2, [.ref hso, .ref hsm, .ref hmd, .int (nI L), .ref hlv])), (hso, .inl (E.2.1, 16, .inl so)), (hsm, .inl (E.2.1, 16, .inl sm)), (hmd, .inl (E.2.2.1, 16, .inr (.inl md))), (hlv, .inl (E.2.1, 16, .inl (upd g i (g (i + 1)))))] H := hP
    have hD : va_D AM [(hcr, .inr (2, [.ref hso, .ref hsm, .ref hmd, .int (nI L), .ref hlv])), (hso, .inl (E.2.1, 16, .inl so)), (hsm, .inl (E.2.1, 16, .inl sm)), (hmd, .inl (E.2.2.1, 16, .inr (.inl md))), (hlv, .inl (E.2.1, 16, .inl (upd g i (g (i + 1)))))] := hD
    refine lv_iinc (v := nI (i + 1)) (lv' := [(2, .int (nI (i + 1))), (0, .ref hcr), (1, .int (nI k))]) hx hb dX2_dropAt_34 hl (k := 0) rfl (nI_1 i) (by decide) rfl (fun ls hl => ?_)
    refine lv_goto (tgt := 12) hx hb dX2_dropAt_37 (by decide) ?_
    exact ih12 (i + 1, upd g i (g (i + 1))) _ _ _ ⟨hP.sub [0, 1, 2, 3, 4] rfl, hD.sub [0, 1, 2, 3, 4] (by decide) rfl, hS, lv_sub hl [0, 1, 2] rfl, by omega, fun j hj => by rw [pk_un (by omega)]; exact p1 j hj, fun j h1 h2 => by
        by_cases q : j = i
        · subst q; rw [pk_us]; exact p3 _ (by omega)
        · rw [pk_un q]; exact p2 j h1 (by omega), fun j hj => by rw [pk_un (by omega)]; exact p3 j (by omega)⟩ (by show L - (i + 1) < L - i; omega)

