/-! THE CLAIM OUT OF ONE WALK OF THE LAW'S BODY. Your part is whole_start (and what it stands on); all else here is the same for every law, but numbers. -/
def R_law : String := "StageSharesLaw"
def lw_P (b : Addr) (xs : List Int32) (args : Array Value) (s : State) : Prop := args = #[.ref b] ∧ s.IntsAt b xs ∧ xs.length ≤ 2049 ∧ (Jvm.Cond.and given_1 narrow_1).before args s = true
def lw_Q (_ : Array Value) (s : State) (o : Outcome) (t : State) : Prop := o = .returned (some (.int 1)) ∧ Framed s o t [] 600000 7302250
def lw_Z (below : List Frame) (a : Array Value) (s : State) : State → Prop := fun t => ∃ o, t.status = .running ∧ Ended t below o ∧ lw_Q a s o t
/-- the law's own end, with 1 on the stack, nothing written that was there before, its room as the claim has it -/
theorem lw_ret {p : Program} {l : Launch} {e : Env} {s : State} {m : MethodId} {below : List Frame} {meth : Method} {c : Code} {b : Nat} (hx : p.tables.exec = Jvm.exec) (hb : c.code = code) (hr : meth.sig.returnType = ret) (hlocks : meth.locks = false) {pc : Nat} {H : Heap} {ls : Array Slot} (hdg : decode code pc = .ok (.ireturn, 1)) : W p l e room_1 s m #[Value.ref b] below meth c H [] 600000 7302250 (lw_Z below #[Value.ref b] s) (F0 m pc ls [.int 1]) := by
  intro T hT X
  obtain ⟨fs, hret, hrun, hended, hW, hframe⟩ := X.leave (v := some (.int 1)) (hlocks := hlocks) (fun h => by rw [hr] at h; cases h)
  have hmeth' : T.vm.method? m = some meth := X.method'
  refine ⟨T.setFrames fs, ?_, .returned (some (.int 1)), hrun, hended, rfl, ⟨_, rfl⟩, hW, hframe⟩
  jvm_step X.here [X.here.top, hx, hb, hdg, hmeth', hr, ret, narrow_b1]
  (try refine ⟨rfl, ?_⟩); (try refine ⟨rfl, ?_⟩)
  first | (intro acts; rw [hret _ acts rfl rfl rfl]) | rw [hret _ _ rfl rfl rfl]
  exact Steps.refl _
/-- what holds at the law's entry: the machine, the code, the tables' words (any of lw_tbl by 'hts w (by decide +kernel)'), the script of L ints xs at the cell b, what the Statement gives of the start (any of its parts by flat_of_before) -/
def lw_At (p : Program) (s : State) (m : MethodId) (meth : Method) (c : Code) (b L : Nat) (xs : Nat → Int32) : Prop :=
  p.tables.exec = Jvm.exec ∧ c.code = code ∧ meth.sig.returnType = ret ∧ c.maxLocals = 4 ∧ s.vm.findClass R_law = some m.cls ∧ (∀ w ∈ lw_tbl, w.before #[Value.ref b] s = true) ∧ va_X b L xs s s.heap ∧ b < s.heap.size ∧ meth.locks = false ∧ (Jvm.Cond.and given_1 narrow_1).before #[Value.ref b] s = true
-- ===== YOUR PART BEGINS =====

theorem arr_known {args : Array Value} {s : State} {ty : FieldType} (h : (Cond.arrayClass ty).before args s = true) : ∃ cA : ClassId, ArrOfT s cA ty ∧ s.vm.findClass ("[" ++ ty.toString) = some cA := by
  obtain ⟨cA, kA, comp, h1, h2, h3⟩ := Cond.arrayClass_spec h
  exact ⟨cA, fun n z => ⟨fun k h => (by cases h), kA, h2, comp, h3⟩, h1⟩
set_option maxRecDepth 20000 in
theorem law_KK {args : Array Value} {s : State} (hts : ∀ w ∈ lw_tbl, w.before args s = true) : ∃ E : EE, KK E s := by
  obtain ⟨c0, iS0, hKn0⟩ := u_known (C := RX0) (T := TX0) (N := 3) (n := 3) hts (fun w h => ta_tbl (ux_X0 w h)) (hts _ (ta_tbl mw_90))
  obtain ⟨c1, iS1, hKn1⟩ := u_known (C := RX1) (T := TX1) (N := 15) (n := 15) hts (fun w h => ta_tbl (ux_X1 w h)) (hts _ (ta_tbl mw_124))
  obtain ⟨c2, iS2, hKn2⟩ := u_known (C := RX2) (T := TX2) (N := 5) (n := 5) hts (fun w h => ta_tbl (ux_X2 w h)) (hts _ (ta_tbl mw_146))
  obtain ⟨c3, iS3, hKn3⟩ := u_known (C := RX3) (T := TX3) (N := 2) (n := 2) hts (fun w h => ta_tbl (ux_X3 w h)) (hts _ (ta_tbl mw_110))
  obtain ⟨c4, iS4, hKn4⟩ := u_known (C := RX4) (T := TX4) (N := 3) (n := 3) hts (fun w h => ta_tbl (ux_X4 w h)) (hts _ (ta_tbl mw_130))
  obtain ⟨c5, iS5, hKn5⟩ := u_known (C := RX5) (T := TX5) (N := 5) (n := 5) hts (fun w h => ta_tbl (ux_X5 w h)) (hts _ (ta_tbl mw_49))
  obtain ⟨c6, iS6, hKn6⟩ := u_known (C := RX6) (T := TX6) (N := 5) (n := 5) hts (fun w h => ta_tbl (ux_X6 w h)) (hts _ (ta_tbl mw_35))
  obtain ⟨c7, iS7, hKn7⟩ := u_known (C := RX7) (T := TX7) (N := 21) (n := 21) hts (fun w h => ta_tbl (ux_X7 w h)) (hts _ (ta_tbl mw_426))
  obtain ⟨aI, hAI, hBI⟩ := arr_known (hts _ (ta_tbl mw_87))
  obtain ⟨aL, hAL, hBL⟩ := arr_known (hts _ (ta_tbl mw_86))
  obtain ⟨aZ, hAZ, hBZ⟩ := arr_known (hts _ (ta_tbl mw_88))
  obtain ⟨dC, dI, hKc⟩ : ∃ (dC : Nat → ClassId) (dI : Nat → Nat → Nat), ∀ (k : Nat) (q : vw_C), classes[k]? = some q → u_Kn s q.1 q.2.1 q.2.2 (dC k) (dI k) := by
    refine ⟨fun k => match k with | 0 => c0 | 1 => c1 | 2 => c2 | 3 => c3 | 4 => c4 | 5 => c5 | 6 => c6 | _ => c7, fun k => match k with | 0 => iS0 | 1 => iS1 | 2 => iS2 | 3 => iS3 | 4 => iS4 | 5 => iS5 | 6 => iS6 | _ => iS7, ?_⟩
    intro k q hq
    match k, hq with
    | 0, hq => cases hq; exact hKn0
    | 1, hq => cases hq; exact hKn1
    | 2, hq => cases hq; exact hKn2
    | 3, hq => cases hq; exact hKn3
    | 4, hq => cases hq; exact hKn4
    | 5, hq => cases hq; exact hKn5
    | 6, hq => cases hq; exact hKn6
    | 7, hq => cases hq; exact hKn7
    | k + 8, hq => simp [classes] at hq
  refine ⟨((dC, dI), aI, aL, aZ), ⟨hKc, ?_⟩, va_Nw.of rfl (hts nw1 (List.mem_of_getElem? (i := 361) (by decide +kernel))), va_Nw.of rfl (hts nw2 (List.mem_of_getElem? (i := 411) (by decide +kernel)))⟩
  intro k q hq
  match k, hq with
  | 0, hq => cases hq; exact ⟨hAI, hBI⟩
  | 1, hq => cases hq; exact ⟨hAL, hBL⟩
  | 2, hq => cases hq; exact ⟨hAZ, hBZ⟩
  | k + 3, hq => simp at hq
section Sc
variable {p : Program} {l : Launch} {e : Env} {R : Room} {s : State} {m : MethodId} {args : Array Value} {below : List Frame} {meth : Method} {c : Code} {H H0 : Heap} {locs : List Loc} {cells slots : Nat} {cc : ByteArray} {pc : Nat} {ls : Array Slot} {A : Nat → Prop} {Q : State → Prop} {rest : List Value}
theorem sc_ld (k : Nat) (hexec : p.tables.exec = Jvm.exec) (hb : c.code = cc) {b L : Nat} {xs : Nat → Int32} (hX : va_X b L xs s H0) (hbl : b < H0.size) (hbA : ¬ A b) (hS : va_S A H0 H locs) (hk : k < L) (hL : L < 2 ^ 31) (hdg : decode cc pc = .ok (.iaload, 1))
    (kk : W p l e R s m args below meth c H locs cells slots Q (F0 m (pc + 1) ls (.int (xs k) :: rest))) : W p l e R s m args below meth c H locs cells slots Q (F0 m pc ls (.int (nI k) :: .ref b :: rest)) := by
  refine va_sld hexec hb hX hbl hbA hS (vp_in_nI hk hL) hdg ?_
  rw [nI_clamp (by omega)]
  exact kk
end Sc
theorem nI_4 (i : Nat) : nI i + Int32.ofInt 4 = nI (i + 4) := nI_add i 4
set_option maxHeartbeats 4000000 in
theorem c_cell (l : Launch) (b L : Nat) (xs : Nat → Int32) (hL : L < 2 ^ 31) : Met l yL_cell (.code yL_cell cL_cell 2 (some .int) :: ta_ws) ({ frames := 0, cells := 0, slots := 0, locals := 0 }) (fun v U => v = [Value.ref b, .int 0].toArray ∧ va_X b L xs U U.heap ∧ b < U.heap.size) (QcRead (if 0 < L then xs 0 else 0)) 0 0 (fun _ => False) := by
  refine Met.ofW (cc := cL_cell) (maxL := 2) (ret := (some .int)) (by decide) rfl ?_
  intro p e s m args below meth c s₁ B hml hv
  obtain ⟨rfl, hX, hbl⟩ := hv
  have hx := B.exec
  have hb := B.bytes
  have hr := B.returns
  have hlocks := B.notSynchronized
  have hS : va_S (fun _ => False) s.heap s.heap [] := va_S.rf
  have hl := lv_entry ([.ref b, .int 0]) (n := 2) (Nat.le_of_ble_eq_true rfl)
  rw [lg_entry_eq]
  generalize (lg_sl ([.ref b, .int 0]) ++ List.replicate (2 - (lg_sl ([.ref b, .int 0])).length) Slot.unset).toArray = ls at hl ⊢
  have hl : lv_has ls 2 [(0, .ref b), (1, .int 0)] := hl
  refine lv_iload_n hx hb dL_cell_0 rfl (lv_at hl 1 rfl) ?_
  refine lv_aload_n hx hb dL_cell_1 rfl (lv_at hl 0 rfl) ?_
  refine va_slen hx hb hX hbl (fun z => z) hS dL_cell_2 ?_
  refine lv_icmp_ge (tgt := 12) hx hb dL_cell_3 (by decide) (fun c_3 => ?_) (fun c_3 => ?_)
  · have hz : ¬ 0 < L := fun z => absurd ((nI_leI (a := L) (b := 0) hL (by omega)).mp c_3) (by omega)
    refine lv_iconst (v := 0) hx hb dL_cell_12 (by decide) ?_
    exact W.iret (v := 0) hx hb hr (fun t ht hW => ⟨by rw [if_neg hz], ht⟩) (fun q h => by cases h) dL_cell_13
  · have hz : 0 < L := by
      rcases Nat.eq_zero_or_pos L with z | z
      · exact absurd ((nI_leI (a := L) (b := 0) hL (by omega)).mpr (by omega)) c_3
      · exact z
    refine lv_aload_n hx hb dL_cell_6 rfl (lv_at hl 0 rfl) ?_
    refine lv_iload_n hx hb dL_cell_7 rfl (lv_at hl 1 rfl) ?_
    refine sc_ld 0 hx hb hX hbl (fun z => z) hS hz hL dL_cell_8 ?_
    refine lv_goto (tgt := 13) hx hb dL_cell_9 (by decide) ?_
    exact W.iret (v := xs 0) hx hb hr (fun t ht hW => ⟨by rw [if_pos hz], ht⟩) (fun q h => by cases h) dL_cell_13
def LK (p : Program) (l : Launch) (e : Env) (s : State) (m : MethodId) (below : List Frame) (meth : Method) (c : Code) (E : EE) (AM : Nat → Prop) (b n : Nat) (h g : Nat → Nat) (pc i : Nat) : Prop := ∀ (bg : Nat → Int32) (dr : Nat → Int32) (oc : Nat → Int64) (x : Int64) (und : Int32) (tk : Int32) (sp : Int32) (fd : Int32) (bd : Int32) (ba : Int32) (bo : Nat → Int32) (rg : Nat → Int32) (cnt : Int32) (fc : Int32) (fs : Nat → Int64) (rw : Nat → Int32) (fr : Int32) (en : Int32) (lc : Int32) (so : Nat → Int32) (sm : Nat → Int32) (lv : Nat → Int32) (md : Nat → Int64) (vals : Nat → Int64) (stp : Nat → Int32) (reg : Nat → Int32) (lo : Nat → Int32) (res : Nat → Int64) (cd : Int32) (fl : Int32) (ah : Int32) (wk : Int32) (zv : Nat → Int64) (zt : Nat → Int32) (zg : Nat → Int32) (zo : Nat → Int32) (zb : Nat → Int32) (zw : Nat → Int32) (zy : Nat → Int32) (zr : Nat → Int64) (zc : Nat → Int32) (zn : Nat → Int32) (zd : Nat → Int32) (zs : Nat → Int32) (zl : Nat → Int32) (zh : Nat → Int32) (zk : Nat → Int32) (zf : Nat → Int32) (st : Nat → Nat) (F : List (Nat × Nat)) (H : Heap) (locs : List Loc) (ls : Array Slot), va_P E.1 classes [(h 0, .inr (1, [.ref (h 1), .ref (h 2), .ref (h 3), .ref (h 4), .ref (h 9), .ref (h 12), .ref (h 14), .ref (h 16), .long x, .int und, .int tk, .int sp, .int fd, .int bd, .int ba])), (h 1, .inl (E.2.1, n, .inl bg)), (h 2, .inl (E.2.1, n, .inl dr)), (h 3, .inl (E.2.2.1, n, .inr (.inl oc))), (h 4, .inr (5, [.int (nI n), .ref (h 5), .ref (h 6), .ref (h 7), .ref (h 8)])), (h 5, .inl (E.2.2.1, n, .inr (.inl vals))), (h 6, .inl (E.2.1, n, .inl stp)), (h 7, .inl (E.2.1, n, .inl reg)), (h 8, .inl (E.2.2.2, n, .inl lo)), (h 9, .inr (0, [.ref (h 10), .int cnt, .ref (h 11)])), (h 10, .inl (E.2.1, n, .inl bo)), (h 11, .inl (E.2.1, n, .inl rg)), (h 12, .inr (3, [.int fc, .ref (h 13)])), (h 13, .inl (E.2.2.1, 16, .inr (.inl fs))), (h 14, .inr (4, [.ref (h 15), .int fr, .int en])), (h 15, .inl (E.2.1, n, .inl rw)), (h 16, .inr (2, [.ref (h 17), .ref (h 18), .ref (h 19), .int lc, .ref (h 20)])), (h 17, .inl (E.2.1, 16, .inl so)), (h 18, .inl (E.2.1, 16, .inl sm)), (h 19, .inl (E.2.2.1, 16, .inr (.inl md))), (h 20, .inl (E.2.1, 16, .inl lv)), (h 21, .inr (6, [.ref (h 4), .ref (h 9), .ref (h 12), .ref (h 0), .ref (h 22)])), (h 22, .inl (E.2.2.1, n, .inr (.inl res))), (g 0, .inr (7, [.int cd, .int (nI n), .ref (g 1), .ref (g 2), .ref (g 3), .ref (g 4), .ref (g 5), .int fl, .ref (g 6), .ref (g 7), .ref (g 8), .ref (g 9), .ref (g 10), .ref (g 11), .ref (g 12), .int ah, .ref (g 13), .ref (g 14), .ref (g 15), .int wk, .ref (g 16)])), (g 1, .inl (E.2.2.1, 64, .inr (.inl zv))), (g 2, .inl (E.2.1, 64, .inl zt)), (g 3, .inl (E.2.1, 64, .inl zg)), (g 4, .inl (E.2.2.2, 64, .inl zo)), (g 5, .inl (E.2.1, 64, .inl zb)), (g 6, .inl (E.2.1, 20, .inl zw)), (g 7, .inl (E.2.1, 20, .inl zy)), (g 8, .inl (E.2.2.1, 64, .inr (.inl zr))), (g 9, .inl (E.2.1, 6, .inl zc)), (g 10, .inl (E.2.1, 64, .inl zn)), (g 11, .inl (E.2.1, 64, .inl zd)), (g 12, .inl (E.2.1, 64, .inl zs)), (g 13, .inl (E.2.2.2, 16, .inl zl)), (g 14, .inl (E.2.1, 16, .inl zh)), (g 15, .inl (E.2.1, 16, .inl zk)), (g 16, .inl (E.2.1, 64, .inl zf))] H → va_D AM [(h 0, .inr (1, [.ref (h 1), .ref (h 2), .ref (h 3), .ref (h 4), .ref (h 9), .ref (h 12), .ref (h 14), .ref (h 16), .long x, .int und, .int tk, .int sp, .int fd, .int bd, .int ba])), (h 1, .inl (E.2.1, n, .inl bg)), (h 2, .inl (E.2.1, n, .inl dr)), (h 3, .inl (E.2.2.1, n, .inr (.inl oc))), (h 4, .inr (5, [.int (nI n), .ref (h 5), .ref (h 6), .ref (h 7), .ref (h 8)])), (h 5, .inl (E.2.2.1, n, .inr (.inl vals))), (h 6, .inl (E.2.1, n, .inl stp)), (h 7, .inl (E.2.1, n, .inl reg)), (h 8, .inl (E.2.2.2, n, .inl lo)), (h 9, .inr (0, [.ref (h 10), .int cnt, .ref (h 11)])), (h 10, .inl (E.2.1, n, .inl bo)), (h 11, .inl (E.2.1, n, .inl rg)), (h 12, .inr (3, [.int fc, .ref (h 13)])), (h 13, .inl (E.2.2.1, 16, .inr (.inl fs))), (h 14, .inr (4, [.ref (h 15), .int fr, .int en])), (h 15, .inl (E.2.1, n, .inl rw)), (h 16, .inr (2, [.ref (h 17), .ref (h 18), .ref (h 19), .int lc, .ref (h 20)])), (h 17, .inl (E.2.1, 16, .inl so)), (h 18, .inl (E.2.1, 16, .inl sm)), (h 19, .inl (E.2.2.1, 16, .inr (.inl md))), (h 20, .inl (E.2.1, 16, .inl lv)), (h 21, .inr (6, [.ref (h 4), .ref (h 9), .ref (h 12), .ref (h 0), .ref (h 22)])), (h 22, .inl (E.2.2.1, n, .inr (.inl res))), (g 0, .inr (7, [.int cd, .int (nI n), .ref (g 1), .ref (g 2), .ref (g 3), .ref (g 4), .ref (g 5), .int fl, .ref (g 6), .ref (g 7), .ref (g 8), .ref (g 9), .ref (g 10), .ref (g 11), .ref (g 12), .int ah, .ref (g 13), .ref (g 14), .ref (g 15), .int wk, .ref (g 16)])), (g 1, .inl (E.2.2.1, 64, .inr (.inl zv))), (g 2, .inl (E.2.1, 64, .inl zt)), (g 3, .inl (E.2.1, 64, .inl zg)), (g 4, .inl (E.2.2.2, 64, .inl zo)), (g 5, .inl (E.2.1, 64, .inl zb)), (g 6, .inl (E.2.1, 20, .inl zw)), (g 7, .inl (E.2.1, 20, .inl zy)), (g 8, .inl (E.2.2.1, 64, .inr (.inl zr))), (g 9, .inl (E.2.1, 6, .inl zc)), (g 10, .inl (E.2.1, 64, .inl zn)), (g 11, .inl (E.2.1, 64, .inl zd)), (g 12, .inl (E.2.1, 64, .inl zs)), (g 13, .inl (E.2.2.2, 16, .inl zl)), (g 14, .inl (E.2.1, 16, .inl zh)), (g 15, .inl (E.2.1, 16, .inl zk)), (g 16, .inl (E.2.1, 64, .inl zf))] → va_S AM s.heap H locs → lv_has ls 4 [(0, .ref b), (1, .ref (h 21)), (2, .ref (g 0)), (3, .int (nI i))] → LI n st F bg dr tk sp fd bd ba fc fs lc vals stp reg lo res fl zv zt zg zo zw zy zr zc zn zd → W p l e room_1 s m #[Value.ref b] below meth c H locs 40 1577 (lw_Z below #[Value.ref b] s) (F0 m pc ls [])
