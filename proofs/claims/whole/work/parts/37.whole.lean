theorem cw_cell : ∀ w ∈ va_wsS RL 9 yL_cell (.code yL_cell cL_cell 2 (some .int) :: ta_ws), w ∈ ta_ws := by
  intro w h
  rcases List.mem_append.mp h with h1 | h1
  · exact wq_L_9 w (by simp only [List.mem_cons, List.not_mem_nil, or_false] at h1 ⊢; rcases h1 with h1 | h1 | h1 <;> simp [h1])
  · exact ta_c (wq_L_9 _ (by simp)) w h1
theorem tp_r {p : Program} {l : Launch} {e : Env} {R : Room} {s : State} {m : MethodId} {args : Array Value} {below : List Frame} {meth : Method} {c : Code} {H : Heap} {locs : List Loc} {cells slots pc : Nat} {ls : Array Slot} {Q : State → Prop} {rest : List Value} {x y : Nat} (h : x = y) (k : W p l e R s m args below meth c H locs cells slots Q (F0 m pc ls (.ref y :: rest))) : W p l e R s m args below meth c H locs cells slots Q (F0 m pc ls (.ref x :: rest)) := h ▸ k
set_option maxHeartbeats 8000000 in
set_option maxRecDepth 100000 in
theorem law_step {pM : Program} {l : Launch} {eM : Env} {sM : State} {mM : MethodId} {bM : List Frame} {meM : Method} {cM : Code} {E : EE} {AM : Nat → Prop} {b L n : Nat} {h g : Nat → Nat} {xs : Nat → Int32} (hL : L ≤ 2049) (C0 : lw_At pM sM mM meM cM b L xs) (hK : KK E sM) (hA : ∀ q, sM.heap.size ≤ q → AM q) (hAe : ∀ q, AM q → sM.heap.size ≤ q) (hbA : ¬ AM b) (i : Nat) (hi0 : i ≤ 2060) (ih : i + 4 ≤ L → LK pM l eM sM mM bM meM cM E AM b n h g 28 (i + 4)) : LK pM l eM sM mM bM meM cM E AM b n h g 28 i := by
  obtain ⟨hx, hb, hr, hml, hown, hts, hX, hbl, hlocks, hgv⟩ := id C0
  intro bg dr oc x und tk sp fd bd ba bo rg cnt fc fs rw fr en lc so sm lv md vals stp reg lo res cd fl ah wk zv zt zg zo zb zw zy zr zc zn zd zs zl zh zk zf st F H locs ls hP hD hS hl hLI
  refine lv_iload_n hx hb dL_law_28 rfl (lv_at hl 3 rfl) ?_
  refine lv_aload_n hx hb dL_law_29 rfl (lv_at hl 0 rfl) ?_
  refine va_slen hx hb hX hbl hbA hS dL_law_30 ?_
  refine lv_iconst (v := 4) hx hb dL_law_31 (by decide) ?_
  refine lv_isub hx hb dL_law_32 ?_
  refine lv_icmp_gt (tgt := 564) hx hb dL_law_33 (by decide) (fun c_33 => ?_) (fun c_33 => ?_)
  · refine lv_iconst (v := 1) hx hb dL_law_564 (by decide) ?_
    refine va_forget (fun q hq => hAe _ (hS.2.2 q hq)) ?_
    refine W.widen (k := 600000) (n := 7302250) (Nat.le_of_ble_eq_true rfl) (Nat.le_of_ble_eq_true rfl) ?_
    exact lw_ret hx hb hr hlocks dL_law_565
  · have hi : i + 4 ≤ L := by
      have h1 : ¬ (nI L - nI 4) < nI i := c_33
      have h2 : ¬ (nI L - nI 4).toInt < (nI i).toInt := fun z => h1 (Int32.lt_iff_toInt_lt.mpr z)
      rw [pk_sub_toInt (by omega) (by omega), nI_toInt (by omega)] at h2
      omega
    refine lv_aload_n hx hb dL_law_36 rfl (lv_at hl 0 rfl) ?_
    refine lv_iload_n hx hb dL_law_37 rfl (lv_at hl 3 rfl) ?_
    refine sc_ld i hx hb hX hbl hbA hS (by omega) (by omega) dL_law_38 ?_
    refine lv_bipush (v := 15) hx hb dL_law_39 (by decide) ?_
    refine lv_iand hx hb dL_law_41 ?_
    obtain ⟨j, hj, hje⟩ := pk_andE (xs i) (m := 15) 4 (by decide)
    refine tp_i (y := nI j) hje ?_
    have kk : LK pM l eM sM mM bM meM cM E AM b n h g 558 i := by
      clear hP hD hS hl hLI
      intro bg dr oc x und tk sp fd bd ba bo rg cnt fc fs rw fr en lc so sm lv md vals stp reg lo res cd fl ah wk zv zt zg zo zb zw zy zr zc zn zd zs zl zh zk zf st F H locs ls hP hD hS hl hLI
      refine lv_iinc (v := nI (i + 4)) (lv' := [(3, .int (nI (i + 4))), (0, .ref b), (1, .ref (h 21)), (2, .ref (g 0))]) hx hb dL_law_558 hl (k := 3) rfl (nI_4 i) (by decide) rfl (fun ls hl => ?_)
      refine lv_goto (tgt := 28) hx hb dL_law_561 (by decide) ?_
      exact ih hi bg dr oc x und tk sp fd bd ba bo rg cnt fc fs rw fr en lc so sm lv md vals stp reg lo res cd fl ah wk zv zt zg zo zb zw zy zr zc zn zd zs zl zh zk zf st F _ _ _ hP hD hS (lv_sub hl [1, 2, 3, 0] rfl) hLI
    rcases (show j = 0 ∨ j = 1 ∨ j = 2 ∨ j = 3 ∨ j = 4 ∨ j = 5 ∨ j = 6 ∨ j = 7 ∨ j = 8 ∨ j = 9 ∨ j = 10 ∨ j = 11 ∨ j = 12 ∨ j = 13 ∨ j = 14 ∨ j = 15 by omega) with rfl | rfl | rfl | rfl | rfl | rfl | rfl | rfl | rfl | rfl | rfl | rfl | rfl | rfl | rfl | rfl
    · refine lv_tableIn (tgt := 116) (off := 74) hx hb dL_law_42 (by decide) (by decide) rfl (by decide) ?_
      exact lo_value hL C0 hK hA hbA (by omega) kk bg dr oc x und tk sp fd bd ba bo rg cnt fc fs rw fr en lc so sm lv md vals stp reg lo res cd fl ah wk zv zt zg zo zb zw zy zr zc zn zd zs zl zh zk zf st F _ _ _ hP hD hS hl hLI
    · refine lv_tableIn (tgt := 179) (off := 137) hx hb dL_law_42 (by decide) (by decide) rfl (by decide) ?_
      exact lo_steps hL C0 hK hA hbA (by omega) kk bg dr oc x und tk sp fd bd ba bo rg cnt fc fs rw fr en lc so sm lv md vals stp reg lo res cd fl ah wk zv zt zg zo zb zw zy zr zc zn zd zs zl zh zk zf st F _ _ _ hP hD hS hl hLI
    · refine lv_tableIn (tgt := 212) (off := 170) hx hb dL_law_42 (by decide) (by decide) rfl (by decide) ?_
      exact lo_touch hL C0 hK hA hbA (by omega) kk bg dr oc x und tk sp fd bd ba bo rg cnt fc fs rw fr en lc so sm lv md vals stp reg lo res cd fl ah wk zv zt zg zo zb zw zy zr zc zn zd zs zl zh zk zf st F _ _ _ hP hD hS hl hLI
    · refine lv_tableIn (tgt := 245) (off := 203) hx hb dL_law_42 (by decide) (by decide) rfl (by decide) ?_
      exact lo_leave hL C0 hK hA hbA (by omega) kk bg dr oc x und tk sp fd bd ba bo rg cnt fc fs rw fr en lc so sm lv md vals stp reg lo res cd fl ah wk zv zt zg zo zb zw zy zr zc zn zd zs zl zh zk zf st F _ _ _ hP hD hS hl hLI
    · refine lv_tableIn (tgt := 294) (off := 252) hx hb dL_law_42 (by decide) (by decide) rfl (by decide) ?_
      exact lo_batches hL C0 hK hA hbA (by omega) kk bg dr oc x und tk sp fd bd ba bo rg cnt fc fs rw fr en lc so sm lv md vals stp reg lo res cd fl ah wk zv zt zg zo zb zw zy zr zc zn zd zs zl zh zk zf st F _ _ _ hP hD hS hl hLI
    · refine lv_tableIn (tgt := 307) (off := 265) hx hb dL_law_42 (by decide) (by decide) rfl (by decide) ?_
      exact lo_batch hL C0 hK hA hbA (by omega) kk bg dr oc x und tk sp fd bd ba bo rg cnt fc fs rw fr en lc so sm lv md vals stp reg lo res cd fl ah wk zv zt zg zo zb zw zy zr zc zn zd zs zl zh zk zf st F _ _ _ hP hD hS hl hLI
    · refine lv_tableIn (tgt := 330) (off := 288) hx hb dL_law_42 (by decide) (by decide) rfl (by decide) ?_
      exact lo_fail hL C0 hK hA hbA (by omega) kk bg dr oc x und tk sp fd bd ba bo rg cnt fc fs rw fr en lc so sm lv md vals stp reg lo res cd fl ah wk zv zt zg zo zb zw zy zr zc zn zd zs zl zh zk zf st F _ _ _ hP hD hS hl hLI
    · refine lv_tableIn (tgt := 363) (off := 321) hx hb dL_law_42 (by decide) (by decide) rfl (by decide) ?_
      exact lo_run hL C0 hK hA hbA (by omega) kk bg dr oc x und tk sp fd bd ba bo rg cnt fc fs rw fr en lc so sm lv md vals stp reg lo res cd fl ah wk zv zt zg zo zb zw zy zr zc zn zd zs zl zh zk zf st F _ _ _ hP hD hS hl hLI
    · refine lv_tableIn (tgt := 426) (off := 384) hx hb dL_law_42 (by decide) (by decide) rfl (by decide) ?_
      exact lo_told hL C0 hK hA hbA (by omega) kk bg dr oc x und tk sp fd bd ba bo rg cnt fc fs rw fr en lc so sm lv md vals stp reg lo res cd fl ah wk zv zt zg zo zb zw zy zr zc zn zd zs zl zh zk zf st F _ _ _ hP hD hS hl hLI
    · refine lv_tableIn (tgt := 449) (off := 407) hx hb dL_law_42 (by decide) (by decide) rfl (by decide) ?_
      exact lo_times hL C0 hK hA hbA (by omega) kk bg dr oc x und tk sp fd bd ba bo rg cnt fc fs rw fr en lc so sm lv md vals stp reg lo res cd fl ah wk zv zt zg zo zb zw zy zr zc zn zd zs zl zh zk zf st F _ _ _ hP hD hS hl hLI
    · refine lv_tableIn (tgt := 472) (off := 430) hx hb dL_law_42 (by decide) (by decide) rfl (by decide) ?_
      exact lo_doneBy hL C0 hK hA hbA (by omega) kk bg dr oc x und tk sp fd bd ba bo rg cnt fc fs rw fr en lc so sm lv md vals stp reg lo res cd fl ah wk zv zt zg zo zb zw zy zr zc zn zd zs zl zh zk zf st F _ _ _ hP hD hS hl hLI
    · refine lv_tableIn (tgt := 495) (off := 453) hx hb dL_law_42 (by decide) (by decide) rfl (by decide) ?_
      exact lo_result hL C0 hK hA hbA (by omega) kk bg dr oc x und tk sp fd bd ba bo rg cnt fc fs rw fr en lc so sm lv md vals stp reg lo res cd fl ah wk zv zt zg zo zb zw zy zr zc zn zd zs zl zh zk zf st F _ _ _ hP hD hS hl hLI
    · refine lv_tableIn (tgt := 519) (off := 477) hx hb dL_law_42 (by decide) (by decide) rfl (by decide) ?_
      exact lo_joined hL C0 hK hA hbA (by omega) kk bg dr oc x und tk sp fd bd ba bo rg cnt fc fs rw fr en lc so sm lv md vals stp reg lo res cd fl ah wk zv zt zg zo zb zw zy zr zc zn zd zs zl zh zk zf st F _ _ _ hP hD hS hl hLI
    · refine lv_tableIn (tgt := 533) (off := 491) hx hb dL_law_42 (by decide) (by decide) rfl (by decide) ?_
      exact lo_plain hL C0 hK hA hbA (by omega) kk bg dr oc x und tk sp fd bd ba bo rg cnt fc fs rw fr en lc so sm lv md vals stp reg lo res cd fl ah wk zv zt zg zo zb zw zy zr zc zn zd zs zl zh zk zf st F _ _ _ hP hD hS hl hLI
    · refine lv_tableIn (tgt := 547) (off := 505) hx hb dL_law_42 (by decide) (by decide) rfl (by decide) ?_
      exact lo_clear hL C0 hK hA hbA (by omega) kk bg dr oc x und tk sp fd bd ba bo rg cnt fc fs rw fr en lc so sm lv md vals stp reg lo res cd fl ah wk zv zt zg zo zb zw zy zr zc zn zd zs zl zh zk zf st F _ _ _ hP hD hS hl hLI
    · refine lv_tableOut (tgt := 558) hx hb dL_law_42 (Or.inr (by decide)) (by decide) ?_
      exact kk bg dr oc x und tk sp fd bd ba bo rg cnt fc fs rw fr en lc so sm lv md vals stp reg lo res cd fl ah wk zv zt zg zo zb zw zy zr zc zn zd zs zl zh zk zf st F _ _ _ hP hD hS hl hLI
theorem law_loop {pM : Program} {l : Launch} {eM : Env} {sM : State} {mM : MethodId} {bM : List Frame} {meM : Method} {cM : Code} {E : EE} {AM : Nat → Prop} {b L n : Nat} {h g : Nat → Nat} {xs : Nat → Int32} (hL : L ≤ 2049) (C0 : lw_At pM sM mM meM cM b L xs) (hK : KK E sM) (hA : ∀ q, sM.heap.size ≤ q → AM q) (hAe : ∀ q, AM q → sM.heap.size ≤ q) (hbA : ¬ AM b) : ∀ (N i : Nat), L ≤ i + N → i ≤ 2060 → LK pM l eM sM mM bM meM cM E AM b n h g 28 i := by
  intro N
  induction N with
  | zero => intro i h1 h2; exact law_step hL C0 hK hA hAe hbA i h2 (fun h3 => absurd h1 (by omega))
  | succ N ih => intro i h1 h2; exact law_step hL C0 hK hA hAe hbA i h2 (fun h3 => ih (i + 4) (by omega) (by omega))
set_option maxHeartbeats 8000000 in
set_option maxRecDepth 100000 in
theorem whole_start {p : Program} {e : Env} {s : State} {m : MethodId} {below : List Frame} {meth : Method} {c : Code} (l : Launch) {b L : Nat} {xs : Nat → Int32} (hL : L ≤ 2049) (C0 : lw_At p s m meth c b L xs) : W p l e room_1 s m #[Value.ref b] below meth c s.heap [] 0 0 (lw_Z below #[Value.ref b] s) (entryFrame m ([Value.ref b] : List Value).toArray 4) := by
  obtain ⟨pM, rfl⟩ : ∃ z, z = p := ⟨_, rfl⟩
  obtain ⟨eM, rfl⟩ : ∃ z, z = e := ⟨_, rfl⟩
  obtain ⟨sM, rfl⟩ : ∃ z, z = s := ⟨_, rfl⟩
  obtain ⟨mM, rfl⟩ : ∃ z, z = m := ⟨_, rfl⟩
  obtain ⟨hx, hb, hr, hml, hown, hts, hX, hbl, hlocks, hgv⟩ := id C0
  obtain ⟨E, hK⟩ := law_KK hts
  obtain ⟨AM, hAM⟩ : ∃ A : Nat → Prop, A = fun q : Nat => sM.heap.size ≤ q := ⟨_, rfl⟩
  have hA : ∀ q, sM.heap.size ≤ q → AM q := fun q z => by rw [hAM]; exact z
  have hAe : ∀ q, AM q → sM.heap.size ≤ q := fun q z => by rw [hAM] at z; exact z
  have hbA : ¬ AM b := fun z => absurd (hAe b z) (Nat.not_le.mpr hbl)
  have hS : va_S AM sM.heap sM.heap [] := va_S.rf
  have hP : va_P E.1 classes [] sM.heap := fun k q h => by simp at h
  have hD : va_D AM [] := ⟨fun i j p q h => by simp at h, fun k q h => by simp at h⟩
  obtain ⟨x0, hx0⟩ : ∃ z : Int32, z = if 0 < L then xs 0 else 0 := ⟨_, rfl⟩
  obtain ⟨n, n1, n64, hc⟩ := clS_n x0
  have hl := lv_entry ([.ref b]) (n := 4) (Nat.le_of_ble_eq_true rfl)
  rw [lg_entry_eq]
  generalize (lg_sl ([.ref b]) ++ List.replicate (4 - (lg_sl ([.ref b])).length) Slot.unset).toArray = ls at hl ⊢
  have hl : lv_has ls 4 [(0, .ref b)] := hl
  refine va_new (ci := 6) (fs := [.null, .null, .null, .null, .null]) (C := RX6) (T := TX6) (N := 5) hx hb hts (fun w h9 => ta_tbl (ux_X6 w h9)) tyX6 tyX6_ok hown (hts _ (ta_tbl mw_34)) (hts _ (ta_tbl mw_35)) (hts _ (ta_tbl mw_24)) hK.1 hP hD hS hA rfl (fun j hj => nw_X6 j hj) (Nat.le_of_ble_eq_true rfl) (Nat.le_of_ble_eq_true rfl) dL_law_0 (fun q0 H hP hD hS => ?_)
  have hP : va_P E.1 classes [(q0, .inr (6, [.null, .null, .null, .null, .null]))] H := hP
  have hD : va_D AM [(q0, .inr (6, [.null, .null, .null, .null, .null]))] := hD
  refine W.widen (k := 1) (n := 5) (by omega) (by omega) ?_
  refine lv_dup hx hb dL_law_3 rfl ?_
  refine lv_aload_n hx hb dL_law_4 rfl (lv_at hl 0 rfl) ?_
  refine lv_iconst (v := 0) hx hb dL_law_5 (by decide) ?_
  have hXH : va_X b L xs sM H := hX.kept (hS.2.1 b hbl hbA)
  refine W.callR (r := if 0 < L then xs 0 else 0) (W.runS (As := [.ref b, .int 0]) (rest := [.ref q0, .ref q0]) (n := 2) ⟨hx, hb, hml, hown, hts⟩ (c_cell l b L xs (by omega)) (va_cwS 2 hts (ta_gi (fun _ hh => ta_tbl hh) cw_cell) rfl rfl rfl (by decide +kernel) ⟨Nat.le_of_ble_eq_true rfl, Nat.le_of_ble_eq_true rfl⟩) ⟨fun a U g mk q => ⟨q.1, va_X.moved (u := U) (U := U.calling g mk a) (Vm.Alike.refl U.vm) q.2.1, q.2.2⟩, fun U hU hW => ⟨rfl, by rw [hU]; exact va_X.moved hW.alike hXH, by rw [hU]; exact Nat.lt_of_lt_of_le hbl hS.1⟩⟩ rfl rfl hl.1 rfl (lv_room (Nat.le_of_ble_eq_true rfl)) dL_law_6 ⟨Nat.le_of_ble_eq_true rfl, Nat.le_of_ble_eq_true rfl⟩) ?_
  refine W.eq (g2 := F0 mM 9 ls [.int (if 0 < L then xs 0 else 0), .ref q0, .ref q0]) rfl ?_
  refine tp_i (y := x0) (hx0.symm) ?_
  refine af_v (wc := [(q0, .inr (6, [.null, .null, .null, .null, .null]))]) (wr := []) (rn_I (b := q0) (As := [.int x0]) (rest := [.ref q0]) (n := 1) ⟨hx, hb, hml, hown, hts⟩ (fun _ hh => ta_tbl hh) wq_L_15 (by decide +kernel) rfl hK (i_Shares l E n q0 x0 (n1) (n64) (hc) _) ⟨Nat.le_of_ble_eq_true rfl, Nat.le_of_ble_eq_true rfl⟩ hP hD [0] rfl rfl rfl hl.1 rfl (Nat.le_of_ble_eq_true rfl) dL_law_9 ⟨Nat.le_of_ble_eq_true rfl, Nat.le_of_ble_eq_true rfl⟩) hP hD hS hA [0] [] rfl rfl rfl (by decide) (fun u_9 H locs hwC hP hD hS => ?_)
  obtain ⟨h, rfl⟩ : ∃ z, z = u_9 := ⟨_, rfl⟩
  have hwC : h 21 = q0 := hwC
  refine tp_r hwC.symm ?_
  have hP : va_P E.1 classes [(h 0, .inr (1, [.ref (h 1), .ref (h 2), .ref (h 3), .ref (h 4), .ref (h 9), .ref (h 12), .ref (h 14), .ref (h 16), .long 0, .int 0, .int 0, .int 0, .int 0, .int 0, .int 0])), (h 1, .inl (E.2.1, n, .inl (fun _ => -1))), (h 2, .inl (E.2.1, n, .inl (fun _ => -1))), (h 3, .inl (E.2.2.1, n, .inr (.inl (fun _ => 0)))), (h 4, .inr (5, [.int (nI n), .ref (h 5), .ref (h 6), .ref (h 7), .ref (h 8)])), (h 5, .inl (E.2.2.1, n, .inr (.inl (fun _ => 0)))), (h 6, .inl (E.2.1, n, .inl (fun _ => 1))), (h 7, .inl (E.2.1, n, .inl (fun _ => 0))), (h 8, .inl (E.2.2.2, n, .inl (fun _ => 0))), (h 9, .inr (0, [.ref (h 10), .int 0, .ref (h 11)])), (h 10, .inl (E.2.1, n, .inl (fun _ => 0))), (h 11, .inl (E.2.1, n, .inl (fun _ => 0))), (h 12, .inr (3, [.int 0, .ref (h 13)])), (h 13, .inl (E.2.2.1, 16, .inr (.inl (fun _ => 0)))), (h 14, .inr (4, [.ref (h 15), .int 0, .int 0])), (h 15, .inl (E.2.1, n, .inl (fun _ => 0))), (h 16, .inr (2, [.ref (h 17), .ref (h 18), .ref (h 19), .int 0, .ref (h 20)])), (h 17, .inl (E.2.1, 16, .inl (fun _ => 0))), (h 18, .inl (E.2.1, 16, .inl (fun _ => 0))), (h 19, .inl (E.2.2.1, 16, .inr (.inl (fun _ => 0)))), (h 20, .inl (E.2.1, 16, .inl (fun _ => 0))), (h 21, .inr (6, [.ref (h 4), .ref (h 9), .ref (h 12), .ref (h 0), .ref (h 22)])), (h 22, .inl (E.2.2.1, n, .inr (.inl (fun _ => 0))))] H := hP
  have hD : va_D AM [(h 0, .inr (1, [.ref (h 1), .ref (h 2), .ref (h 3), .ref (h 4), .ref (h 9), .ref (h 12), .ref (h 14), .ref (h 16), .long 0, .int 0, .int 0, .int 0, .int 0, .int 0, .int 0])), (h 1, .inl (E.2.1, n, .inl (fun _ => -1))), (h 2, .inl (E.2.1, n, .inl (fun _ => -1))), (h 3, .inl (E.2.2.1, n, .inr (.inl (fun _ => 0)))), (h 4, .inr (5, [.int (nI n), .ref (h 5), .ref (h 6), .ref (h 7), .ref (h 8)])), (h 5, .inl (E.2.2.1, n, .inr (.inl (fun _ => 0)))), (h 6, .inl (E.2.1, n, .inl (fun _ => 1))), (h 7, .inl (E.2.1, n, .inl (fun _ => 0))), (h 8, .inl (E.2.2.2, n, .inl (fun _ => 0))), (h 9, .inr (0, [.ref (h 10), .int 0, .ref (h 11)])), (h 10, .inl (E.2.1, n, .inl (fun _ => 0))), (h 11, .inl (E.2.1, n, .inl (fun _ => 0))), (h 12, .inr (3, [.int 0, .ref (h 13)])), (h 13, .inl (E.2.2.1, 16, .inr (.inl (fun _ => 0)))), (h 14, .inr (4, [.ref (h 15), .int 0, .int 0])), (h 15, .inl (E.2.1, n, .inl (fun _ => 0))), (h 16, .inr (2, [.ref (h 17), .ref (h 18), .ref (h 19), .int 0, .ref (h 20)])), (h 17, .inl (E.2.1, 16, .inl (fun _ => 0))), (h 18, .inl (E.2.1, 16, .inl (fun _ => 0))), (h 19, .inl (E.2.2.1, 16, .inr (.inl (fun _ => 0)))), (h 20, .inl (E.2.1, 16, .inl (fun _ => 0))), (h 21, .inr (6, [.ref (h 4), .ref (h 9), .ref (h 12), .ref (h 0), .ref (h 22)])), (h 22, .inl (E.2.2.1, n, .inr (.inl (fun _ => 0))))] := hD
  refine W.widen (k := 23) (n := 822) (Nat.le_of_ble_eq_true rfl) (Nat.le_of_ble_eq_true rfl) ?_
  refine lv_astore_n (lv' := [(1, .ref (h 21)), (0, .ref b)]) hx hb dL_law_12 rfl hl (by decide) rfl (fun ls hl => ?_)
  refine va_new (ci := 7) (fs := [.int 0, .int 0, .null, .null, .null, .null, .null, .int 0, .null, .null, .null, .null, .null, .null, .null, .int 0, .null, .null, .null, .int 0, .null]) (C := RX7) (T := TX7) (N := 21) hx hb hts (fun w h9 => ta_tbl (ux_X7 w h9)) tyX7 tyX7_ok hown (hts _ (ta_tbl mw_425)) (hts _ (ta_tbl mw_426)) (hts _ (ta_tbl mw_32)) hK.1 hP hD hS hA rfl (fun j hj => nw_X7 j hj) (Nat.le_of_ble_eq_true rfl) (Nat.le_of_ble_eq_true rfl) dL_law_13 (fun q13 H hP hD hS => ?_)
  have hP : va_P E.1 classes [(h 0, .inr (1, [.ref (h 1), .ref (h 2), .ref (h 3), .ref (h 4), .ref (h 9), .ref (h 12), .ref (h 14), .ref (h 16), .long 0, .int 0, .int 0, .int 0, .int 0, .int 0, .int 0])), (h 1, .inl (E.2.1, n, .inl (fun _ => -1))), (h 2, .inl (E.2.1, n, .inl (fun _ => -1))), (h 3, .inl (E.2.2.1, n, .inr (.inl (fun _ => 0)))), (h 4, .inr (5, [.int (nI n), .ref (h 5), .ref (h 6), .ref (h 7), .ref (h 8)])), (h 5, .inl (E.2.2.1, n, .inr (.inl (fun _ => 0)))), (h 6, .inl (E.2.1, n, .inl (fun _ => 1))), (h 7, .inl (E.2.1, n, .inl (fun _ => 0))), (h 8, .inl (E.2.2.2, n, .inl (fun _ => 0))), (h 9, .inr (0, [.ref (h 10), .int 0, .ref (h 11)])), (h 10, .inl (E.2.1, n, .inl (fun _ => 0))), (h 11, .inl (E.2.1, n, .inl (fun _ => 0))), (h 12, .inr (3, [.int 0, .ref (h 13)])), (h 13, .inl (E.2.2.1, 16, .inr (.inl (fun _ => 0)))), (h 14, .inr (4, [.ref (h 15), .int 0, .int 0])), (h 15, .inl (E.2.1, n, .inl (fun _ => 0))), (h 16, .inr (2, [.ref (h 17), .ref (h 18), .ref (h 19), .int 0, .ref (h 20)])), (h 17, .inl (E.2.1, 16, .inl (fun _ => 0))), (h 18, .inl (E.2.1, 16, .inl (fun _ => 0))), (h 19, .inl (E.2.2.1, 16, .inr (.inl (fun _ => 0)))), (h 20, .inl (E.2.1, 16, .inl (fun _ => 0))), (h 21, .inr (6, [.ref (h 4), .ref (h 9), .ref (h 12), .ref (h 0), .ref (h 22)])), (h 22, .inl (E.2.2.1, n, .inr (.inl (fun _ => 0)))), (q13, .inr (7, [.int 0, .int 0, .null, .null, .null, .null, .null, .int 0, .null, .null, .null, .null, .null, .null, .null, .int 0, .null, .null, .null, .int 0, .null]))] H := hP
  have hD : va_D AM [(h 0, .inr (1, [.ref (h 1), .ref (h 2), .ref (h 3), .ref (h 4), .ref (h 9), .ref (h 12), .ref (h 14), .ref (h 16), .long 0, .int 0, .int 0, .int 0, .int 0, .int 0, .int 0])), (h 1, .inl (E.2.1, n, .inl (fun _ => -1))), (h 2, .inl (E.2.1, n, .inl (fun _ => -1))), (h 3, .inl (E.2.2.1, n, .inr (.inl (fun _ => 0)))), (h 4, .inr (5, [.int (nI n), .ref (h 5), .ref (h 6), .ref (h 7), .ref (h 8)])), (h 5, .inl (E.2.2.1, n, .inr (.inl (fun _ => 0)))), (h 6, .inl (E.2.1, n, .inl (fun _ => 1))), (h 7, .inl (E.2.1, n, .inl (fun _ => 0))), (h 8, .inl (E.2.2.2, n, .inl (fun _ => 0))), (h 9, .inr (0, [.ref (h 10), .int 0, .ref (h 11)])), (h 10, .inl (E.2.1, n, .inl (fun _ => 0))), (h 11, .inl (E.2.1, n, .inl (fun _ => 0))), (h 12, .inr (3, [.int 0, .ref (h 13)])), (h 13, .inl (E.2.2.1, 16, .inr (.inl (fun _ => 0)))), (h 14, .inr (4, [.ref (h 15), .int 0, .int 0])), (h 15, .inl (E.2.1, n, .inl (fun _ => 0))), (h 16, .inr (2, [.ref (h 17), .ref (h 18), .ref (h 19), .int 0, .ref (h 20)])), (h 17, .inl (E.2.1, 16, .inl (fun _ => 0))), (h 18, .inl (E.2.1, 16, .inl (fun _ => 0))), (h 19, .inl (E.2.2.1, 16, .inr (.inl (fun _ => 0)))), (h 20, .inl (E.2.1, 16, .inl (fun _ => 0))), (h 21, .inr (6, [.ref (h 4), .ref (h 9), .ref (h 12), .ref (h 0), .ref (h 22)])), (h 22, .inl (E.2.2.1, n, .inr (.inl (fun _ => 0)))), (q13, .inr (7, [.int 0, .int 0, .null, .null, .null, .null, .null, .int 0, .null, .null, .null, .null, .null, .null, .null, .int 0, .null, .null, .null, .int 0, .null]))] := hD
  refine W.widen (k := 24) (n := 843) (by omega) (by omega) ?_
  refine lv_dup hx hb dL_law_16 rfl ?_
  refine lv_aload_n hx hb dL_law_17 rfl (lv_at hl 1 rfl) ?_
  refine lv_iconst (v := 0) hx hb dL_law_18 (by decide) ?_
  have hXH : va_X b L xs sM H := hX.kept (hS.2.1 b hbl hbA)
  refine W.callR (r := if 0 < L then xs 0 else 0) (W.runS (As := [.ref b, .int 0]) (rest := [.ref q13, .ref q13]) (n := 2) ⟨hx, hb, hml, hown, hts⟩ (c_cell l b L xs (by omega)) (va_cwS 2 hts (ta_gi (fun _ hh => ta_tbl hh) cw_cell) rfl rfl rfl (by decide +kernel) ⟨Nat.le_of_ble_eq_true rfl, Nat.le_of_ble_eq_true rfl⟩) ⟨fun a U g mk q => ⟨q.1, va_X.moved (u := U) (U := U.calling g mk a) (Vm.Alike.refl U.vm) q.2.1, q.2.2⟩, fun U hU hW => ⟨rfl, by rw [hU]; exact va_X.moved hW.alike hXH, by rw [hU]; exact Nat.lt_of_lt_of_le hbl hS.1⟩⟩ rfl rfl hl.1 rfl (lv_room (Nat.le_of_ble_eq_true rfl)) dL_law_19 ⟨Nat.le_of_ble_eq_true rfl, Nat.le_of_ble_eq_true rfl⟩) ?_
  refine W.eq (g2 := F0 mM 22 ls [.int (if 0 < L then xs 0 else 0), .ref q13, .ref q13]) rfl ?_
  refine tp_i (y := x0) (hx0.symm) ?_
  refine af_v (wc := [(q13, .inr (7, [.int 0, .int 0, .null, .null, .null, .null, .null, .int 0, .null, .null, .null, .null, .null, .null, .null, .int 0, .null, .null, .null, .int 0, .null]))]) (wr := [(h 0, .inr (1, [.ref (h 1), .ref (h 2), .ref (h 3), .ref (h 4), .ref (h 9), .ref (h 12), .ref (h 14), .ref (h 16), .long 0, .int 0, .int 0, .int 0, .int 0, .int 0, .int 0])), (h 1, .inl (E.2.1, n, .inl (fun _ => -1))), (h 2, .inl (E.2.1, n, .inl (fun _ => -1))), (h 3, .inl (E.2.2.1, n, .inr (.inl (fun _ => 0)))), (h 4, .inr (5, [.int (nI n), .ref (h 5), .ref (h 6), .ref (h 7), .ref (h 8)])), (h 5, .inl (E.2.2.1, n, .inr (.inl (fun _ => 0)))), (h 6, .inl (E.2.1, n, .inl (fun _ => 1))), (h 7, .inl (E.2.1, n, .inl (fun _ => 0))), (h 8, .inl (E.2.2.2, n, .inl (fun _ => 0))), (h 9, .inr (0, [.ref (h 10), .int 0, .ref (h 11)])), (h 10, .inl (E.2.1, n, .inl (fun _ => 0))), (h 11, .inl (E.2.1, n, .inl (fun _ => 0))), (h 12, .inr (3, [.int 0, .ref (h 13)])), (h 13, .inl (E.2.2.1, 16, .inr (.inl (fun _ => 0)))), (h 14, .inr (4, [.ref (h 15), .int 0, .int 0])), (h 15, .inl (E.2.1, n, .inl (fun _ => 0))), (h 16, .inr (2, [.ref (h 17), .ref (h 18), .ref (h 19), .int 0, .ref (h 20)])), (h 17, .inl (E.2.1, 16, .inl (fun _ => 0))), (h 18, .inl (E.2.1, 16, .inl (fun _ => 0))), (h 19, .inl (E.2.2.1, 16, .inr (.inl (fun _ => 0)))), (h 20, .inl (E.2.1, 16, .inl (fun _ => 0))), (h 21, .inr (6, [.ref (h 4), .ref (h 9), .ref (h 12), .ref (h 0), .ref (h 22)])), (h 22, .inl (E.2.2.1, n, .inr (.inl (fun _ => 0))))]) (rn_I (b := q13) (As := [.int x0]) (rest := [.ref q13]) (n := 1) ⟨hx, hb, hml, hown, hts⟩ (fun _ hh => ta_tbl hh) wq_L_20 (by decide +kernel) rfl hK (i_Model l E n q13 x0 (n1) (n64) (by rw [clM_S]; exact hc) _) ⟨Nat.le_of_ble_eq_true rfl, Nat.le_of_ble_eq_true rfl⟩ hP hD [23] rfl rfl rfl hl.1 rfl (Nat.le_of_ble_eq_true rfl) dL_law_22 ⟨Nat.le_of_ble_eq_true rfl, Nat.le_of_ble_eq_true rfl⟩) hP hD hS hA [23] [0, 1, 2, 3, 4, 5, 6, 7, 8, 9, 10, 11, 12, 13, 14, 15, 16, 17, 18, 19, 20, 21, 22] rfl rfl rfl (by decide) (fun u_22 H locs hwC hP hD hS => ?_)
  obtain ⟨g, rfl⟩ : ∃ z, z = u_22 := ⟨_, rfl⟩
  have hwC : g 0 = q13 := hwC
  refine tp_r hwC.symm ?_
  have hP : va_P E.1 classes [(h 0, .inr (1, [.ref (h 1), .ref (h 2), .ref (h 3), .ref (h 4), .ref (h 9), .ref (h 12), .ref (h 14), .ref (h 16), .long 0, .int 0, .int 0, .int 0, .int 0, .int 0, .int 0])), (h 1, .inl (E.2.1, n, .inl (fun _ => -1))), (h 2, .inl (E.2.1, n, .inl (fun _ => -1))), (h 3, .inl (E.2.2.1, n, .inr (.inl (fun _ => 0)))), (h 4, .inr (5, [.int (nI n), .ref (h 5), .ref (h 6), .ref (h 7), .ref (h 8)])), (h 5, .inl (E.2.2.1, n, .inr (.inl (fun _ => 0)))), (h 6, .inl (E.2.1, n, .inl (fun _ => 1))), (h 7, .inl (E.2.1, n, .inl (fun _ => 0))), (h 8, .inl (E.2.2.2, n, .inl (fun _ => 0))), (h 9, .inr (0, [.ref (h 10), .int 0, .ref (h 11)])), (h 10, .inl (E.2.1, n, .inl (fun _ => 0))), (h 11, .inl (E.2.1, n, .inl (fun _ => 0))), (h 12, .inr (3, [.int 0, .ref (h 13)])), (h 13, .inl (E.2.2.1, 16, .inr (.inl (fun _ => 0)))), (h 14, .inr (4, [.ref (h 15), .int 0, .int 0])), (h 15, .inl (E.2.1, n, .inl (fun _ => 0))), (h 16, .inr (2, [.ref (h 17), .ref (h 18), .ref (h 19), .int 0, .ref (h 20)])), (h 17, .inl (E.2.1, 16, .inl (fun _ => 0))), (h 18, .inl (E.2.1, 16, .inl (fun _ => 0))), (h 19, .inl (E.2.2.1, 16, .inr (.inl (fun _ => 0)))), (h 20, .inl (E.2.1, 16, .inl (fun _ => 0))), (h 21, .inr (6, [.ref (h 4), .ref (h 9), .ref (h 12), .ref (h 0), .ref (h 22)])), (h 22, .inl (E.2.2.1, n, .inr (.inl (fun _ => 0)))), (g 0, .inr (7, [.int 0, .int (nI n), .ref (g 1), .ref (g 2), .ref (g 3), .ref (g 4), .ref (g 5), .int 0, .ref (g 6), .ref (g 7), .ref (g 8), .ref (g 9), .ref (g 10), .ref (g 11), .ref (g 12), .int 0, .ref (g 13), .ref (g 14), .ref (g 15), .int 0, .ref (g 16)])), (g 1, .inl (E.2.2.1, 64, .inr (.inl (fun _ => 0)))), (g 2, .inl (E.2.1, 64, .inl (fun _ => 1))), (g 3, .inl (E.2.1, 64, .inl (fun _ => 0))), (g 4, .inl (E.2.2.2, 64, .inl (fun _ => 0))), (g 5, .inl (E.2.1, 64, .inl (fun _ => 0))), (g 6, .inl (E.2.1, 20, .inl (fun _ => 0))), (g 7, .inl (E.2.1, 20, .inl (fun _ => 0))), (g 8, .inl (E.2.2.1, 64, .inr (.inl (fun _ => 0)))), (g 9, .inl (E.2.1, 6, .inl (fun _ => 0))), (g 10, .inl (E.2.1, 64, .inl (fun _ => -1))), (g 11, .inl (E.2.1, 64, .inl (fun _ => -1))), (g 12, .inl (E.2.1, 64, .inl (fun _ => 0))), (g 13, .inl (E.2.2.2, 16, .inl (fun _ => 0))), (g 14, .inl (E.2.1, 16, .inl (fun _ => 0))), (g 15, .inl (E.2.1, 16, .inl (fun _ => 0))), (g 16, .inl (E.2.1, 64, .inl (fun _ => 0)))] H := hP
  have hD : va_D AM [(h 0, .inr (1, [.ref (h 1), .ref (h 2), .ref (h 3), .ref (h 4), .ref (h 9), .ref (h 12), .ref (h 14), .ref (h 16), .long 0, .int 0, .int 0, .int 0, .int 0, .int 0, .int 0])), (h 1, .inl (E.2.1, n, .inl (fun _ => -1))), (h 2, .inl (E.2.1, n, .inl (fun _ => -1))), (h 3, .inl (E.2.2.1, n, .inr (.inl (fun _ => 0)))), (h 4, .inr (5, [.int (nI n), .ref (h 5), .ref (h 6), .ref (h 7), .ref (h 8)])), (h 5, .inl (E.2.2.1, n, .inr (.inl (fun _ => 0)))), (h 6, .inl (E.2.1, n, .inl (fun _ => 1))), (h 7, .inl (E.2.1, n, .inl (fun _ => 0))), (h 8, .inl (E.2.2.2, n, .inl (fun _ => 0))), (h 9, .inr (0, [.ref (h 10), .int 0, .ref (h 11)])), (h 10, .inl (E.2.1, n, .inl (fun _ => 0))), (h 11, .inl (E.2.1, n, .inl (fun _ => 0))), (h 12, .inr (3, [.int 0, .ref (h 13)])), (h 13, .inl (E.2.2.1, 16, .inr (.inl (fun _ => 0)))), (h 14, .inr (4, [.ref (h 15), .int 0, .int 0])), (h 15, .inl (E.2.1, n, .inl (fun _ => 0))), (h 16, .inr (2, [.ref (h 17), .ref (h 18), .ref (h 19), .int 0, .ref (h 20)])), (h 17, .inl (E.2.1, 16, .inl (fun _ => 0))), (h 18, .inl (E.2.1, 16, .inl (fun _ => 0))), (h 19, .inl (E.2.2.1, 16, .inr (.inl (fun _ => 0)))), (h 20, .inl (E.2.1, 16, .inl (fun _ => 0))), (h 21, .inr (6, [.ref (h 4), .ref (h 9), .ref (h 12), .ref (h 0), .ref (h 22)])), (h 22, .inl (E.2.2.1, n, .inr (.inl (fun _ => 0)))), (g 0, .inr (7, [.int 0, .int (nI n), .ref (g 1), .ref (g 2), .ref (g 3), .ref (g 4), .ref (g 5), .int 0, .ref (g 6), .ref (g 7), .ref (g 8), .ref (g 9), .ref (g 10), .ref (g 11), .ref (g 12), .int 0, .ref (g 13), .ref (g 14), .ref (g 15), .int 0, .ref (g 16)])), (g 1, .inl (E.2.2.1, 64, .inr (.inl (fun _ => 0)))), (g 2, .inl (E.2.1, 64, .inl (fun _ => 1))), (g 3, .inl (E.2.1, 64, .inl (fun _ => 0))), (g 4, .inl (E.2.2.2, 64, .inl (fun _ => 0))), (g 5, .inl (E.2.1, 64, .inl (fun _ => 0))), (g 6, .inl (E.2.1, 20, .inl (fun _ => 0))), (g 7, .inl (E.2.1, 20, .inl (fun _ => 0))), (g 8, .inl (E.2.2.1, 64, .inr (.inl (fun _ => 0)))), (g 9, .inl (E.2.1, 6, .inl (fun _ => 0))), (g 10, .inl (E.2.1, 64, .inl (fun _ => -1))), (g 11, .inl (E.2.1, 64, .inl (fun _ => -1))), (g 12, .inl (E.2.1, 64, .inl (fun _ => 0))), (g 13, .inl (E.2.2.2, 16, .inl (fun _ => 0))), (g 14, .inl (E.2.1, 16, .inl (fun _ => 0))), (g 15, .inl (E.2.1, 16, .inl (fun _ => 0))), (g 16, .inl (E.2.1, 64, .inl (fun _ => 0)))] := hD
  refine W.widen (k := 40) (n := 1577) (Nat.le_of_ble_eq_true rfl) (Nat.le_of_ble_eq_true rfl) ?_
  refine lv_astore_n (lv' := [(2, .ref (g 0)), (1, .ref (h 21)), (0, .ref b)]) hx hb dL_law_25 rfl hl (by decide) rfl (fun ls hl => ?_)
  refine lv_iconst (v := 1) hx hb dL_law_26 (by decide) ?_
  refine lv_istore_n (lv' := [(3, .int 1), (2, .ref (g 0)), (1, .ref (h 21)), (0, .ref b)]) hx hb dL_law_27 rfl hl (by decide) rfl (fun ls hl => ?_)
  exact law_loop hL C0 hK hA hAe hbA L 1 (by omega) (by omega) (fun _ => -1) (fun _ => -1) (fun _ => 0) 0 0 0 0 0 0 0 (fun _ => 0) (fun _ => 0) 0 0 (fun _ => 0) (fun _ => 0) 0 0 0 (fun _ => 0) (fun _ => 0) (fun _ => 0) (fun _ => 0) (fun _ => 0) (fun _ => 1) (fun _ => 0) (fun _ => 0) (fun _ => 0) 0 0 0 0 (fun _ => 0) (fun _ => 1) (fun _ => 0) (fun _ => 0) (fun _ => 0) (fun _ => 0) (fun _ => 0) (fun _ => 0) (fun _ => 0) (fun _ => -1) (fun _ => -1) (fun _ => 0) (fun _ => 0) (fun _ => 0) (fun _ => 0) (fun _ => 0) (fun _ => 1) [] _ _ _ (hP.sub [0, 1, 2, 3, 4, 5, 6, 7, 8, 9, 10, 11, 12, 13, 14, 15, 16, 17, 18, 19, 20, 21, 22, 23, 24, 25, 26, 27, 28, 29, 30, 31, 32, 33, 34, 35, 36, 37, 38, 39] rfl) (hD.sub [0, 1, 2, 3, 4, 5, 6, 7, 8, 9, 10, 11, 12, 13, 14, 15, 16, 17, 18, 19, 20, 21, 22, 23, 24, 25, 26, 27, 28, 29, 30, 31, 32, 33, 34, 35, 36, 37, 38, 39] (by decide) rfl) hS (lv_sub hl [3, 2, 1, 0] rfl) (li_clear ⟨n1, n64⟩)

set_option maxHeartbeats 4000000 in
theorem lw_walk (l : Launch) (b : Addr) (xs : List Int32) : MetFree l x (headSpec (Jvm.Cond.code x code maxLocals ret :: tables_1) room_1) (lw_P b xs) (fun _ _ _ _ _ => True) lw_Q := by
  refine MetFree.of_bodyS (code := code) (maxLocals := maxLocals) (ret := ret) (by decide) ?_ ?_
  · intro args s m h hn
    obtain ⟨meth, c, h1, h2, h3, h4, h5, h6, -, -⟩ := Cond.code_spec hn (atoms_spec (ws := Jvm.Cond.code x code maxLocals ret :: tables_1) h _ List.mem_cons_self)
    exact ⟨meth, c, h1, h2, h3, h4, h5, h6⟩
  · intro p e s m args below meth c s₁ B hml0 hP _
    obtain ⟨rfl, hx, hbd, hgv⟩ := hP
    obtain ⟨scr, harrAt, hlist, hof, hsmall⟩ := hx
    obtain ⟨hcb, hkn, -, -⟩ := State.arrayAt?_spec harrAt
    have hown : s.vm.findClass R_law = some m.cls := findClass_of_methodNamed B.named
    have hts0 : ∀ c ∈ (Jvm.Cond.code x code maxLocals ret :: tables_1), c.before #[Value.ref b] s = true := atoms_spec (ws := Jvm.Cond.code x code maxLocals ret :: tables_1) B.pre
    have hts : ∀ w ∈ lw_tbl, w.before #[Value.ref b] s = true := k2_hts_sels lw_privs (fun w hw => hts0 w (List.mem_cons_of_mem _ hw)) lw_privs_ok
    have hml : c.maxLocals = 4 := B.maxLocals_eq (hts0 _ List.mem_cons_self)
    have X₀ : Stand p l e room_1 s m #[Value.ref b] below meth c s₁ [] 0 0 := Stand.of_body B
    have hh0 : s₁.heap = s.heap := by rw [B.state]; rfl
    have hsz : scr.slots.size = xs.length := by rw [← Array.length_toList, hlist, List.length_map]
    have hval : ∀ j : Nat, j < xs.length → scr.slots[j]? = some (.int (xs.getD j 0)) := fun j hj => by
      rw [← Array.getElem?_toList, hlist]
      simp [hj]
    have hbl : b < s.heap.size := (Array.getElem?_eq_some_iff.mp hcb).1
    have hX : va_X b xs.length (fun j => xs.getD j 0) s s.heap := ⟨scr, hcb, hof, hkn, hsz, hval⟩
    have K : W p l e room_1 s m #[Value.ref b] below meth c s₁.heap [] 0 0 (lw_Z below #[Value.ref b] s) (entryFrame m ([Value.ref b] : List Value).toArray 4) := by
      rw [hh0]
      exact whole_start l hbd ⟨B.exec, B.bytes, B.returns, hml, hown, hts, hX, hbl, B.notSynchronized, hgv⟩
    obtain ⟨t, a1, o, b1, b2, b3⟩ := K s₁ rfl X₀
    exact ⟨t, o, a1, b1, b2, b3⟩
theorem lw_pre_spec {args : Array Value} {s : State} (h : (Jvm.Cond.and given_1 narrow_1).before args s = true) (hr : rest_1_c.before args s = true) : ∃ (b : Addr) (xs : List Int32), lw_P b xs args s := by
  have hs := flat_of_before _ h
  have hq := flat_of_before _ hr
  have hc : (Cond.count 1).before args s = true := hs _ (by decide +kernel)
  have harr : (Cond.arrayOf (.arg 0) .int).before args s = true := hs _ (by decide +kernel)
  have hle : (Cond.le (.length (.arg 0)) (.int 2049)).before args s = true := hs _ (by decide +kernel)
  have hlen : (Cond.isInt (.length (.arg 0))).before args s = true := hq _ (by decide +kernel)
  have hall : (Cond.all (.arg 0) (.isInt (.elem (.arg 0) (.index 0)))).before args s = true := hq _ (by decide +kernel)
  obtain ⟨b, xs, hb, hx⟩ := State.ints_of_pre rfl harr hlen hall
  have hsm : xs.length < 2 ^ 31 := hx.choose_spec.2.2.2
  have hev : (Term.length (.arg 0)).eval args s none [] s = some (.int xs.length.toInt32) := hx.length_eval hb
  have hv := Cond.le_ints hev (show (Term.int 2049).eval args s none [] s = some (.int 2049) from rfl)
  have hd : xs.length.toInt32 ≤ 2049 := by
    simpa [Cond.before, Cond.holds, hv] using hle
  have hN : xs.length ≤ 2049 := (Int32.ofNat_le_ofNat hsm (by decide)).mp (show Int32.ofNat xs.length ≤ Int32.ofNat 2049 from hd)
  exact ⟨b, xs, Cond.one_arg hc (show args[0]? = some (.ref b) from hb), hx, hN, h⟩
theorem lw_comes (l : Launch) : Comes l x (Jvm.Cond.code x code maxLocals ret :: tables_1) room_1 (fun tb e args s => Calls_1 tb e args s ∧ rest_1 tb e args s ∧ Pre_1 tb e args s)
    (fun _ _ args s o t => lw_Q args s o t) := by
  intro p e ha hc hk s m args below hf hfit hheap happ hpre
  obtain ⟨b, xs, hP⟩ := lw_pre_spec hpre.2.2 hpre.2.1
  obtain ⟨k, o, h1, h2, h3, hQ⟩ := lw_walk l b xs p e ha hc hk s m args below hf ((Spec.applies_iff_loose hf).mp happ).1 hP trivial
  exact ⟨k, o, h1, h2, h3, hQ⟩
theorem lw_frame {s t : State} {o : Outcome} {args : Array Value} (h : Framed s o t [] 600000 7302250) :
    Framed s o t (fieldLocs frame_1_writes args s ++ arrayLocs frame_1_arrays args s ++ staticLocs frame_1_statics s) 600000 7302250 := h
theorem lw_limb (L : Cond) (hL : ∀ (args : Array Value) (s t : State), L.after args s (.returned (some (.int 1))) t = true) :
    ArmFor flags0 classFile x code maxLocals ret World_1 tables_1 room_1 Calls_1 rest_1 Pre_1
      (fun tb e a s o t => postC L tb e a s o t ∧ Framed s o t (fieldLocs frame_1_writes a s ++ arrayLocs frame_1_arrays a s ++ staticLocs frame_1_statics s) 600000 7302250) := by
  intro l _ _ _ p e ha hc hk s m args below hf hfit hheap happ hpre
  obtain ⟨k, o, h1, h2, h3, rfl, hF⟩ := lw_comes l p e ha hc hk s m args below hf hfit hheap happ hpre
  exact ⟨k, _, h1, h2, h3, hL args s _, lw_frame hF⟩
theorem i_vc : Claimed_1_1 ∧ Claimed_1_2 := ⟨lw_limb limb_1_1 (fun args s t => by simp [limb_1_1, Cond.after, Cond.holds, Cond.value]), lw_limb limb_1_2 (fun args s t => Cond.after_iff.mpr (by
  first | (rw [show limb_1_2 = Cond.eq .result (.int 1) from rfl, Cond.eq_ints (x := 1) (y := 1) rfl rfl]; simp; done) | (simp [limb_1_2, Cond.value, Term.eval]; done)))⟩

