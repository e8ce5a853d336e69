/-! my own base: one list of words for all methods, contracts of one form, calls and returns in one row -/
abbrev classes : List vw_C := [(RX0, TX0, 3), (RX1, TX1, 15), (RX2, TX2, 5), (RX3, TX3, 2), (RX4, TX4, 3), (RX5, TX5, 5), (RX6, TX6, 5), (RX7, TX7, 21)]
def ta_ws : List Cond := lw_tbl.filter goodWord
theorem ta_good {w : Cond} (h : w ∈ ta_ws) : (w.onTables && w.keeps) = true ∨ ∃ ty, w = .arrayClass ty := good_of_word (List.mem_filter.mp h).2
theorem ta_tbl {w : Cond} (h : w ∈ ta_ws) : w ∈ lw_tbl := (List.mem_filter.mp h).1
theorem ta_i (i : Nat) {w : Cond} (h : lw_tbl[i]? = some w) (g : goodWord w = true) : w ∈ ta_ws := List.mem_filter.mpr ⟨List.mem_of_getElem? h, g⟩
theorem ta_all {l : List Cond} (h : l.all (fun w => decide (w ∈ lw_tbl) && goodWord w) = true) : ∀ w ∈ l, w ∈ ta_ws := by
  intro w hw
  have h1 := List.all_eq_true.mp h w hw
  simp only [Bool.and_eq_true, decide_eq_true_eq] at h1
  exact List.mem_filter.mpr h1
theorem ta_cons {c : Cond} : ∀ w ∈ ta_ws, w ∈ c :: ta_ws := fun _ h => List.mem_cons_of_mem _ h
theorem ta_gi {Ts : List Cond} (hsub : ∀ w ∈ ta_ws, w ∈ Ts) {l : List Cond} (h : ∀ w ∈ l, w ∈ ta_ws) : GoodIn Ts l := fun w hw => ⟨hsub w (h w hw), ta_good (h w hw)⟩
theorem ta_c {c : Cond} (h : c ∈ ta_ws) : ∀ w ∈ c :: ta_ws, w ∈ ta_ws := fun w hw => (List.mem_cons.mp hw).elim (fun e => e ▸ h) id
abbrev EE : Type := va_G × ClassId × ClassId × ClassId
abbrev tys_ (E : EE) : List (ClassId × FieldType) := [(E.2.1, .int), (E.2.2.1, .long), (E.2.2.2, .boolean)]
abbrev nw1 : Cond := .methodLinkNest RX1 166 yX6_makeStep RX6
abbrev nw2 : Cond := .methodLinkNest RX5 31 yX6_makeStep RX6
def KK (E : EE) (U : State) : Prop := va_K E.1 classes (tys_ E) U ∧ va_Nw nw1 U ∧ va_Nw nw2 U
theorem KK.warm {E : EE} {s U : State} (hW : s.WarmedH U.vm) (h : KK E s) : KK E U := ⟨va_K.moved hW.alike h.1, va_Nw.warmM hW h.2.1, va_Nw.warmM hW h.2.2⟩
theorem KK.calling {E : EE} {U : State} {g : JFrame} {mk : MethodId} {a : Array Value} (h : KK E U) : KK E (U.calling g mk a) := ⟨va_K.moved (u := U) (U := U.calling g mk a) (Vm.Alike.refl U.vm) h.1, va_Nw.same rfl rfl h.2.1, va_Nw.same rfl rfl h.2.2⟩
def PreW (E : EE) (ws : va_W) (sz : Nat) (U : State) : Prop := U.heap.size = sz ∧ va_P E.1 classes ws U.heap ∧ KK E U ∧ va_D (fun _ => True) ws
def PostW (E : EE) (ws' : va_W) (A : Nat → Prop) (t : State) : Prop := va_P E.1 classes ws' t.heap ∧ va_D A ws'
theorem PostW.mk' {E : EE} {ws' : va_W} {A : Nat → Prop} {t : State} {H : Heap} (ht : t.heap = H) (hP : va_P E.1 classes ws' H) (hD : va_D A ws') : PostW E ws' A t := by
  subst ht
  exact ⟨hP, hD⟩
theorem PreW.blind {E : EE} {ws : va_W} {sz : Nat} {av : List Value} : FrameBlind (va_Pc av (PreW E ws sz)) := fun a U g mk q => by
  obtain ⟨q0, q1, qP, qK, qD⟩ := q
  exact ⟨q0, q1, qP, qK.calling, qD⟩
def Mi {S : Type} (l : Launch) (E : EE) (y : MethodName) (cd : Cond) (rm : Room) (av : List Value) (ws : va_W) (post : Int32 → S → Prop) (W' : S → va_W) : Prop :=
  ∀ sz : Nat, Met l y (cd :: ta_ws) rm (va_Pc av (PreW E ws sz)) (va_Qi post (fun u t => PostW E (W' u) (va_A ws sz) t) (va_A ws sz)) rm.cells rm.slots (va_A ws sz)
def Ml {S : Type} (l : Launch) (E : EE) (y : MethodName) (cd : Cond) (rm : Room) (av : List Value) (ws : va_W) (post : Int64 → S → Prop) (W' : S → va_W) : Prop :=
  ∀ sz : Nat, Met l y (cd :: ta_ws) rm (va_Pc av (PreW E ws sz)) (va_Ql post (fun u t => PostW E (W' u) (va_A ws sz) t) (va_A ws sz)) rm.cells rm.slots (va_A ws sz)
def Mv {S : Type} (l : Launch) (E : EE) (y : MethodName) (cd : Cond) (rm : Room) (av : List Value) (ws : va_W) (post : S → Prop) (W' : S → va_W) : Prop :=
  ∀ sz : Nat, Met l y (cd :: ta_ws) rm (va_Pc av (PreW E ws sz)) (va_Qv post (fun u t => PostW E (W' u) (va_A ws sz) t) (va_A ws sz)) rm.cells rm.slots (va_A ws sz)
/-- what a method's body stands on -/
def Bd (p : Program) (l : Launch) (E : EE) (s : State) (m : MethodId) (meth : Method) (c : Code) (y : MethodName) (bytes : ByteArray) (maxL : Nat) (ret : Option FieldType) (cd : Cond) (av : List Value) : Prop :=
  p.tables.exec = Jvm.exec ∧ c.code = bytes ∧ meth.sig.returnType = ret ∧ c.maxLocals = maxL ∧ s.vm.findClass y.cls = some m.cls ∧ meth.locks = false ∧ meth.name = y.name ∧ (∀ w ∈ (cd :: ta_ws), w.before av.toArray s = true) ∧ KK E s
theorem bd_of {p : Program} {l : Launch} {E : EE} {rm : Room} {e : Env} {s : State} {m : MethodId} {args : Array Value} {below : List Frame} {meth : Method} {c : Code} {s₁ : State} {y : MethodName} {bytes : ByteArray} {maxL : Nat} {ret : Option FieldType} {av : List Value} {ws : va_W} {sz : Nat}
    (B : BodyLoose p l y (headSpec (.code y bytes maxL ret :: ta_ws) rm) bytes maxL ret e s m args below meth c s₁) (hml : c.maxLocals = maxL) (hv : va_Pc av (PreW E ws sz) args s) : Bd p l E s m meth c y bytes maxL ret (.code y bytes maxL ret) av := by
  obtain ⟨rfl, hsz, hP, hK, hD0⟩ := hv
  exact ⟨B.exec, B.bytes, B.returns, hml, findClass_of_methodNamed B.named, B.notSynchronized, (name_of_methodNamed B.named B.method).1, atoms_spec (ws := (.code y bytes maxL ret :: ta_ws)) B.pre, hK⟩
theorem Mi.ofW {S : Type} {l : Launch} {E : EE} {y : MethodName} {bytes : ByteArray} {maxL : Nat} {ret : Option FieldType} {rm : Room} {av : List Value} {ws : va_W} {post : Int32 → S → Prop} {W' : S → va_W} (hy : plainName y.cls = true) (hlen : (lg_sl av).length ≤ maxL)
    (body : ∀ (p : Program) (e : Env) (s : State) (m : MethodId) (below : List Frame) (meth : Method) (c : Code) (A : Nat → Prop) (ls : Array Slot), Bd p l E s m meth c y bytes maxL ret (.code y bytes maxL ret) av → (∀ q, s.heap.size ≤ q → A q) → va_P E.1 classes ws s.heap → va_D A ws → va_S A s.heap s.heap [] → lv_has ls maxL (lv_args 0 av) →
      W p l e rm s m av.toArray below meth c s.heap [] 0 0 (MQ below (va_Qi post (fun u t => PostW E (W' u) A t) A) av.toArray s rm.cells rm.slots A) (F0 m 0 ls [])) : Mi l E y (.code y bytes maxL ret) rm av ws post W' := by
  intro sz
  refine Met.ofW (cc := bytes) (maxL := maxL) (ret := ret) hy rfl ?_
  intro p e s m args below meth c s₁ B hml hv
  have hB := bd_of B hml hv
  obtain ⟨rfl, hsz, hP, hK, hD0⟩ := hv
  subst hsz
  rw [lg_entry_eq]
  exact body p e s m below meth c _ _ hB (fun q h => Or.inr h) hP hD0.self va_S.rf (lv_entry av hlen)
theorem Ml.ofW {S : Type} {l : Launch} {E : EE} {y : MethodName} {bytes : ByteArray} {maxL : Nat} {ret : Option FieldType} {rm : Room} {av : List Value} {ws : va_W} {post : Int64 → S → Prop} {W' : S → va_W} (hy : plainName y.cls = true) (hlen : (lg_sl av).length ≤ maxL)
    (body : ∀ (p : Program) (e : Env) (s : State) (m : MethodId) (below : List Frame) (meth : Method) (c : Code) (A : Nat → Prop) (ls : Array Slot), Bd p l E s m meth c y bytes maxL ret (.code y bytes maxL ret) av → (∀ q, s.heap.size ≤ q → A q) → va_P E.1 classes ws s.heap → va_D A ws → va_S A s.heap s.heap [] → lv_has ls maxL (lv_args 0 av) →
      W p l e rm s m av.toArray below meth c s.heap [] 0 0 (MQ below (va_Ql post (fun u t => PostW E (W' u) A t) A) av.toArray s rm.cells rm.slots A) (F0 m 0 ls [])) : Ml l E y (.code y bytes maxL ret) rm av ws post W' := by
  intro sz
  refine Met.ofW (cc := bytes) (maxL := maxL) (ret := ret) hy rfl ?_
  intro p e s m args below meth c s₁ B hml hv
  have hB := bd_of B hml hv
  obtain ⟨rfl, hsz, hP, hK, hD0⟩ := hv
  subst hsz
  rw [lg_entry_eq]
  exact body p e s m below meth c _ _ hB (fun q h => Or.inr h) hP hD0.self va_S.rf (lv_entry av hlen)
theorem Mv.ofW {S : Type} {l : Launch} {E : EE} {y : MethodName} {bytes : ByteArray} {maxL : Nat} {ret : Option FieldType} {rm : Room} {av : List Value} {ws : va_W} {post : S → Prop} {W' : S → va_W} (hy : plainName y.cls = true) (hlen : (lg_sl av).length ≤ maxL)
    (body : ∀ (p : Program) (e : Env) (s : State) (m : MethodId) (below : List Frame) (meth : Method) (c : Code) (A : Nat → Prop) (ls : Array Slot), Bd p l E s m meth c y bytes maxL ret (.code y bytes maxL ret) av → (∀ q, s.heap.size ≤ q → A q) → va_P E.1 classes ws s.heap → va_D A ws → va_S A s.heap s.heap [] → lv_has ls maxL (lv_args 0 av) →
      W p l e rm s m av.toArray below meth c s.heap [] 0 0 (MQ below (va_Qv post (fun u t => PostW E (W' u) A t) A) av.toArray s rm.cells rm.slots A) (F0 m 0 ls [])) : Mv l E y (.code y bytes maxL ret) rm av ws post W' := by
  intro sz
  refine Met.ofW (cc := bytes) (maxL := maxL) (ret := ret) hy rfl ?_
  intro p e s m args below meth c s₁ B hml hv
  have hB := bd_of B hml hv
  obtain ⟨rfl, hsz, hP, hK, hD0⟩ := hv
  subst hsz
  rw [lg_entry_eq]
  exact body p e s m below meth c _ _ hB (fun q h => Or.inr h) hP hD0.self va_S.rf (lv_entry av hlen)
section Rt
variable {p : Program} {l : Launch} {e : Env} {R : Room} {s : State} {m : MethodId} {args : Array Value} {below : List Frame} {meth : Method} {c : Code} {H : Heap} {locs : List Loc} {cells slots mc ms : Nat} {cc : ByteArray} {pc : Nat} {ls : Array Slot} {E : EE} {A : Nat → Prop} {ws : va_W} {S : Type} {W' : S → va_W}
theorem va_mapsub {ws ws' : va_W} {is : List Nat} (hs : is.map (fun i => ws[i]?) = ws'.map some) : is.filterMap (fun i => ws[i]?) = ws' := by
  have h1 : is.filterMap (fun i => ws[i]?) = (is.map (fun i => ws[i]?)).filterMap id := by
    rw [List.filterMap_map]; rfl
  rw [h1, hs, List.filterMap_map]
  show List.filterMap (fun x => some x) ws' = ws'
  exact List.filterMap_some
theorem Ri {post : Int32 → S → Prop} {v : Int32} (hexec : p.tables.exec = Jvm.exec) (hb : c.code = cc) (hr : meth.sig.returnType = some .int) (hlocks : meth.locks = false) (hP : va_P E.1 classes ws H) (hD : va_D A ws) (hS : va_S A s.heap H locs) (u : S) (is : List Nat) (hn : va_nd is = true) (hs : is.map (fun i => ws[i]?) = (W' u).map some) (hp : post v u) (hc : cells ≤ mc) (hsl : slots ≤ ms) (hdg : decode cc pc = .ok (.ireturn, 1)) :
    W p l e R s m args below meth c H locs cells slots (MQ below (va_Qi post (fun u t => PostW E (W' u) A t) A) args s mc ms A) (F0 m pc ls [.int v]) := by
  refine W.widen (k := mc) (n := ms) hc hsl ?_
  exact W.iret hexec hb hr (fun t ht hW => ⟨⟨v, u, rfl, hp, PostW.mk' ht (hP.sub is (va_mapsub hs)) (hD.sub is hn hs)⟩, hS.F ht⟩) hS.2.2 hdg hlocks
theorem Rz {post : Int32 → S → Prop} {v : Int32} (hexec : p.tables.exec = Jvm.exec) (hb : c.code = cc) (hr : meth.sig.returnType = some .boolean) (hlocks : meth.locks = false) (hv : v = 0 ∨ v = 1) (hP : va_P E.1 classes ws H) (hD : va_D A ws) (hS : va_S A s.heap H locs) (u : S) (is : List Nat) (hn : va_nd is = true) (hs : is.map (fun i => ws[i]?) = (W' u).map some) (hp : post v u) (hc : cells ≤ mc) (hsl : slots ≤ ms) (hdg : decode cc pc = .ok (.ireturn, 1)) :
    W p l e R s m args below meth c H locs cells slots (MQ below (va_Qi post (fun u t => PostW E (W' u) A t) A) args s mc ms A) (F0 m pc ls [.int v]) := by
  refine W.widen (k := mc) (n := ms) hc hsl ?_
  exact W.zret hexec hb hr (by rcases hv with rfl | rfl <;> decide) (fun t ht hW => ⟨⟨v, u, rfl, hp, PostW.mk' ht (hP.sub is (va_mapsub hs)) (hD.sub is hn hs)⟩, hS.F ht⟩) hS.2.2 hdg hlocks
theorem Rl {post : Int64 → S → Prop} {v : Int64} (hexec : p.tables.exec = Jvm.exec) (hb : c.code = cc) (hr : meth.sig.returnType = some .long) (hlocks : meth.locks = false) (hP : va_P E.1 classes ws H) (hD : va_D A ws) (hS : va_S A s.heap H locs) (u : S) (is : List Nat) (hn : va_nd is = true) (hs : is.map (fun i => ws[i]?) = (W' u).map some) (hp : post v u) (hc : cells ≤ mc) (hsl : slots ≤ ms) (hdg : decode cc pc = .ok (.lreturn, 1)) :
    W p l e R s m args below meth c H locs cells slots (MQ below (va_Ql post (fun u t => PostW E (W' u) A t) A) args s mc ms A) (F0 m pc ls [.long v]) := by
  refine W.widen (k := mc) (n := ms) hc hsl ?_
  exact W.lret hexec hb hr (fun t ht hW => ⟨⟨v, u, rfl, hp, PostW.mk' ht (hP.sub is (va_mapsub hs)) (hD.sub is hn hs)⟩, hS.F ht⟩) hS.2.2 hdg hlocks
theorem Rv {post : S → Prop} (hexec : p.tables.exec = Jvm.exec) (hb : c.code = cc) (hr : meth.sig.returnType = none) (hlocks : meth.locks = false) (hP : va_P E.1 classes ws H) (hD : va_D A ws) (hS : va_S A s.heap H locs) (u : S) (is : List Nat) (hn : va_nd is = true) (hs : is.map (fun i => ws[i]?) = (W' u).map some) (hp : post u) (hc : cells ≤ mc) (hsl : slots ≤ ms) (hdg : decode cc pc = .ok (.return_, 1)) :
    W p l e R s m args below meth c H locs cells slots (MQ below (va_Qv post (fun u t => PostW E (W' u) A t) A) args s mc ms A) (F0 m pc ls []) := by
  refine W.widen (k := mc) (n := ms) hc hsl ?_
  exact W.vret hexec hb hr (fun t ht hW => ⟨⟨u, rfl, hp, PostW.mk' ht (hP.sub is (va_mapsub hs)) (hD.sub is hn hs)⟩, hS.F ht⟩) hS.2.2 hdg hlocks
/-- a loop: an invariant, a measure that falls -/
theorem W.loop {Q : State → Prop} {σ : Type} (I : σ → Heap → List Loc → Array Slot → Prop) (μ : σ → Nat) (a0 : σ) (h0 : I a0 H locs ls)
    (step : ∀ (a : σ) (H : Heap) (locs : List Loc) (ls : Array Slot), I a H locs ls → (∀ (b : σ) (H' : Heap) (locs' : List Loc) (ls' : Array Slot), I b H' locs' ls' → μ b < μ a → W p l e R s m args below meth c H' locs' cells slots Q (F0 m pc ls' [])) → W p l e R s m args below meth c H locs cells slots Q (F0 m pc ls [])) :
    W p l e R s m args below meth c H locs cells slots Q (F0 m pc ls []) := by
  have key : ∀ (n : Nat) (a : σ) (H : Heap) (locs : List Loc) (ls : Array Slot), μ a < n → I a H locs ls → W p l e R s m args below meth c H locs cells slots Q (F0 m pc ls []) := by
    intro n
    induction n with
    | zero => intro a H locs ls h; exact absurd h (Nat.not_lt_zero _)
    | succ n ih => intro a H locs ls h hI; exact step a H locs ls hI (fun b H' locs' ls' hb' hlt => ih b H' locs' ls' (by omega) hb')
  exact key (μ a0 + 1) a0 H locs ls (Nat.lt_succ_self _) h0
end Rt
section Cl
variable {p : Program} {l : Launch} {e : Env} {R : Room} {s : State} {m : MethodId} {args : Array Value} {below : List Frame} {meth : Method} {c : Code} {H H0 : Heap} {locs : List Loc} {cells slots mc ms : Nat} {cc : ByteArray} {pc : Nat} {ls : Array Slot} {E : EE} {A : Nat → Prop} {ws wc wr : va_W} {S : Type} {W' : S → va_W} {Q : State → Prop} {rest st0 : List Value} {a : Array Value}
theorem af_i {post : Int32 → S → Prop} (hr : va_Run p l e R s m args below meth c H locs cells slots mc ms (F0 m pc ls st0) rest (va_Qi post (fun u t => PostW E (W' u) (va_A wc H.size) t) (va_A wc H.size) a) (va_A wc H.size)) (hP : va_P E.1 classes ws H) (hD : va_D A ws) (hS : va_S A H0 H locs) (hA : ∀ q, H0.size ≤ q → A q) (isC isR : List Nat) (hC : isC.map (fun i => ws[i]?) = wc.map some) (hR : isR.map (fun i => ws[i]?) = wr.map some) (hn : va_nd isR = true) (hdis : ∀ i ∈ isR, i ∉ isC)
    (kk : ∀ (r : Int32) (u : S) (H1 : Heap) (locs1 : List Loc), post r u → va_P E.1 classes (wr ++ W' u) H1 → va_D A (wr ++ W' u) → va_S A H0 H1 locs1 → W p l e R s m args below meth c H1 locs1 (cells + mc) (slots + ms) Q (F0 m (pc + 3) ls (.int r :: rest))) : W p l e R s m args below meth c H locs cells slots Q (F0 m pc ls st0) := by
  have hFc := va_free hD hS hA isC hC
  refine va_calli hr hS (fun q _ h => hFc q h) hFc (fun r u t H1 locs1 ht hvm hp hB hz hk hS1 => ?_)
  obtain ⟨hP1, hD1⟩ := hB
  rw [ht] at hP1
  obtain ⟨h1, h2⟩ := va_join hP hD isC isR hC hR hn hdis hk hFc hP1 hD1
  exact kk r u H1 locs1 hp h1 h2 hS1
theorem af_l {post : Int64 → S → Prop} (hr : va_Run p l e R s m args below meth c H locs cells slots mc ms (F0 m pc ls st0) rest (va_Ql post (fun u t => PostW E (W' u) (va_A wc H.size) t) (va_A wc H.size) a) (va_A wc H.size)) (hP : va_P E.1 classes ws H) (hD : va_D A ws) (hS : va_S A H0 H locs) (hA : ∀ q, H0.size ≤ q → A q) (isC isR : List Nat) (hC : isC.map (fun i => ws[i]?) = wc.map some) (hR : isR.map (fun i => ws[i]?) = wr.map some) (hn : va_nd isR = true) (hdis : ∀ i ∈ isR, i ∉ isC)
    (kk : ∀ (r : Int64) (u : S) (H1 : Heap) (locs1 : List Loc), post r u → va_P E.1 classes (wr ++ W' u) H1 → va_D A (wr ++ W' u) → va_S A H0 H1 locs1 → W p l e R s m args below meth c H1 locs1 (cells + mc) (slots + ms) Q (F0 m (pc + 3) ls (.long r :: rest))) : W p l e R s m args below meth c H locs cells slots Q (F0 m pc ls st0) := by
  have hFc := va_free hD hS hA isC hC
  refine va_calll hr hS (fun q _ h => hFc q h) hFc (fun r u t H1 locs1 ht hvm hp hB hz hk hS1 => ?_)
  obtain ⟨hP1, hD1⟩ := hB
  rw [ht] at hP1
  obtain ⟨h1, h2⟩ := va_join hP hD isC isR hC hR hn hdis hk hFc hP1 hD1
  exact kk r u H1 locs1 hp h1 h2 hS1
theorem af_v {post : S → Prop} (hr : va_Run p l e R s m args below meth c H locs cells slots mc ms (F0 m pc ls st0) rest (va_Qv post (fun u t => PostW E (W' u) (va_A wc H.size) t) (va_A wc H.size) a) (va_A wc H.size)) (hP : va_P E.1 classes ws H) (hD : va_D A ws) (hS : va_S A H0 H locs) (hA : ∀ q, H0.size ≤ q → A q) (isC isR : List Nat) (hC : isC.map (fun i => ws[i]?) = wc.map some) (hR : isR.map (fun i => ws[i]?) = wr.map some) (hn : va_nd isR = true) (hdis : ∀ i ∈ isR, i ∉ isC)
    (kk : ∀ (u : S) (H1 : Heap) (locs1 : List Loc), post u → va_P E.1 classes (wr ++ W' u) H1 → va_D A (wr ++ W' u) → va_S A H0 H1 locs1 → W p l e R s m args below meth c H1 locs1 (cells + mc) (slots + ms) Q (F0 m (pc + 3) ls rest)) : W p l e R s m args below meth c H locs cells slots Q (F0 m pc ls st0) := by
  have hFc := va_free hD hS hA isC hC
  refine va_callv hr hS (fun q _ h => hFc q h) hFc (fun u t H1 locs1 ht hvm hp hB hz hk hS1 => ?_)
  obtain ⟨hP1, hD1⟩ := hB
  rw [ht] at hP1
  obtain ⟨h1, h2⟩ := va_join hP hD isC isR hC hR hn hdis hk hFc hP1 hD1
  exact kk u H1 locs1 hp h1 h2 hS1
variable {y : MethodName} {bytes : ByteArray} {maxL nL n index : Nat} {ret : Option FieldType} {rm : Room} {Qc : Array Value → State → Outcome → State → Prop} {free : Addr → Prop} {Ts : List Cond} {own : String} {b ci : Nat} {As : List Value}
/-- the words of a call of an instance method -/
abbrev wqV (own : String) (index : Nat) (y : MethodName) (bytes : ByteArray) (maxL : Nat) (ret : Option FieldType) : List Cond := [.methodLink own index y, .instanceMethod y, .selects y.cls y y, .initialized y.cls, .code y bytes maxL ret]
abbrev wqS (own : String) (index : Nat) (y : MethodName) (bytes : ByteArray) (maxL : Nat) (ret : Option FieldType) : List Cond := [.methodLink own index y, .static y, .initialized y.cls, .code y bytes maxL ret]
abbrev wqI (own : String) (index : Nat) (y : MethodName) (bytes : ByteArray) (maxL : Nat) : List Cond := [.methodLink own index y, .instanceMethod y, .initialized y.cls, .code y bytes maxL none]
abbrev wqN (y : MethodName) (bytes : ByteArray) (maxL : Nat) (ret : Option FieldType) : List Cond := [.static y, .initialized y.cls, .code y bytes maxL ret]
abbrev hdW (y : MethodName) (n : Nat) : Prop := y.cls ≠ "java/lang/invoke/MethodHandle" ∧ y.cls ≠ "java/lang/invoke/VarHandle" ∧ (parseMethodDescriptor y.desc).map (fun d => d.parameters.length) = some n
theorem rn_V (Sx : CallFix p m c cc nL s args Ts own) (hsub : ∀ w ∈ ta_ws, w ∈ Ts) (hw : ∀ w ∈ wqV own index y bytes maxL ret, w ∈ ta_ws) (hd : hdW y n) (hK : KK E s)
    (hM : Met l y (.code y bytes maxL ret :: ta_ws) rm (va_Pc (.ref b :: As) (PreW E wc H.size)) Qc rm.cells rm.slots free) (hR : rm.frames + 1 ≤ R.frames ∧ 8 + (maxL + 11) + rm.locals ≤ R.locals)
    (hP : va_P E.1 classes ws H) (hD : va_D A ws) (isC : List Nat) (hC : isC.map (fun i => ws[i]?) = wc.map some) (hnC : va_nd isC = true) {T : u_T} {N : Nat} {fs : List Value} (hcl : classes[ci]? = some (y.cls, T, N)) (he : wc[0]? = some (b, .inr (ci, fs)))
    (hn : As.length = n) (hsize : ls.size = nL) (hst : st0 = As.reverse ++ .ref b :: rest) (hW : (rest.map fun v => v.category).sum ≤ 8) (hdg : decode cc pc = .ok (.invokevirtual index, 3)) (hf : cells + rm.cells ≤ R.cells ∧ slots + rm.slots ≤ R.slots) :
    va_Run p l e R s m args below meth c H locs cells slots rm.cells rm.slots (F0 m pc ls st0) rest (Qc (Value.ref b :: As).toArray) free := by
  have hPc := hP.sub isC (va_mapsub hC)
  have hDc := hD.sub isC hnC hC
  have ok : ∀ w ∈ wqV own index y bytes maxL ret, w.before args s = true := fun w h => Sx.2.2.2.2 w (hsub w (hw w h))
  refine va_runV Sx hM (C := y.cls) (bytes := bytes) (maxL := maxL) (ret := ret) (cwV n Sx.2.2.2.2 (ta_gi hsub ?_) rfl rfl rfl ⟨rfl, hd⟩ hR) ⟨PreW.blind, va_recv hK.1 hPc hcl he, fun U hU hWm => ⟨rfl, by rw [hU], by rw [hU]; exact hPc, hK.warm hWm, hDc.weaken (fun _ _ _ _ => trivial)⟩⟩ rfl hn hsize hst (lv_room hW) hdg hf
  intro w h
  rcases List.mem_append.mp h with h1 | h1
  · exact hw w (by simp only [List.mem_cons, List.not_mem_nil, or_false] at h1 ⊢; rcases h1 with h1 | h1 | h1 | h1 <;> simp [h1])
  · exact ta_c (hw _ (by simp)) w h1
theorem rn_S (Sx : CallFix p m c cc nL s args Ts own) (hsub : ∀ w ∈ ta_ws, w ∈ Ts) (hw : ∀ w ∈ wqS own index y bytes maxL ret, w ∈ ta_ws) (hd : hdW y n) (hK : KK E s)
    (hM : Met l y (.code y bytes maxL ret :: ta_ws) rm (va_Pc As (PreW E wc H.size)) Qc rm.cells rm.slots free) (hR : rm.frames + 1 ≤ R.frames ∧ 8 + (maxL + 11) + rm.locals ≤ R.locals)
    (hP : va_P E.1 classes ws H) (hD : va_D A ws) (isC : List Nat) (hC : isC.map (fun i => ws[i]?) = wc.map some) (hnC : va_nd isC = true)
    (hn : As.length = n) (hsize : ls.size = nL) (hst : st0 = As.reverse ++ rest) (hW : (rest.map fun v => v.category).sum ≤ 8) (hdg : decode cc pc = .ok (.invokestatic index, 3)) (hf : cells + rm.cells ≤ R.cells ∧ slots + rm.slots ≤ R.slots) :
    va_Run p l e R s m args below meth c H locs cells slots rm.cells rm.slots (F0 m pc ls st0) rest (Qc As.toArray) free := by
  have hPc := hP.sub isC (va_mapsub hC)
  have hDc := hD.sub isC hnC hC
  refine va_runS Sx hM (bytes := bytes) (maxL := maxL) (ret := ret) (va_cwS n Sx.2.2.2.2 (ta_gi hsub ?_) rfl rfl rfl hd hR) ⟨PreW.blind, fun U hU hWm => ⟨rfl, by rw [hU], by rw [hU]; exact hPc, hK.warm hWm, hDc.weaken (fun _ _ _ _ => trivial)⟩⟩ rfl hn hsize hst (lv_room hW) hdg hf
  intro w h
  rcases List.mem_append.mp h with h1 | h1
  · exact hw w (by simp only [List.mem_cons, List.not_mem_nil, or_false] at h1 ⊢; rcases h1 with h1 | h1 | h1 <;> simp [h1])
  · exact ta_c (hw _ (by simp)) w h1
theorem rn_I (Sx : CallFix p m c cc nL s args Ts own) (hsub : ∀ w ∈ ta_ws, w ∈ Ts) (hw : ∀ w ∈ wqI own index y bytes maxL, w ∈ ta_ws) (hd : hdW y n) (hy1 : y.name = "<init>") (hK : KK E s)
    (hM : Met l y (.code y bytes maxL none :: ta_ws) rm (va_Pc (.ref b :: As) (PreW E wc H.size)) Qc rm.cells rm.slots free) (hR : rm.frames + 1 ≤ R.frames ∧ 8 + (maxL + 11) + rm.locals ≤ R.locals)
    (hP : va_P E.1 classes ws H) (hD : va_D A ws) (isC : List Nat) (hC : isC.map (fun i => ws[i]?) = wc.map some) (hnC : va_nd isC = true)
    (hn : As.length = n) (hsize : ls.size = nL) (hst : st0 = As.reverse ++ .ref b :: rest) (hW : (rest.map fun v => v.category).sum ≤ 8) (hdg : decode cc pc = .ok (.invokespecial index, 3)) (hf : cells + rm.cells ≤ R.cells ∧ slots + rm.slots ≤ R.slots) :
    va_Run p l e R s m args below meth c H locs cells slots rm.cells rm.slots (F0 m pc ls st0) rest (Qc (Value.ref b :: As).toArray) free := by
  have hPc := hP.sub isC (va_mapsub hC)
  have hDc := hD.sub isC hnC hC
  have ok : ∀ w ∈ wqI own index y bytes maxL, w.before args s = true := fun w h => Sx.2.2.2.2 w (hsub w (hw w h))
  exact va_runI Sx hM (bytes := bytes) (maxL := maxL) (cwI n Sx.2.2.2.2 (ta_gi hsub (ta_c (hw _ (by simp)))) rfl rfl rfl (ok _ (by simp)) (ok _ (by simp)) (ok _ (by simp)) hy1 hd hR) ⟨PreW.blind, fun U hU hWm => ⟨rfl, by rw [hU], by rw [hU]; exact hPc, hK.warm hWm, hDc.weaken (fun _ _ _ _ => trivial)⟩⟩ rfl hn hsize hst (lv_room hW) hdg hf
theorem rn_N {host : String} (Sx : CallFix p m c cc nL s args Ts own) (hsub : ∀ w ∈ ta_ws, w ∈ Ts) (hw : ∀ w ∈ wqN y bytes maxL ret, w ∈ ta_ws) (hl : va_Nw (.methodLinkNest own index y host) s) (hd : hdW y n) (hK : KK E s)
    (hM : Met l y (.code y bytes maxL ret :: ta_ws) rm (va_Pc As (PreW E wc H.size)) Qc rm.cells rm.slots free) (hR : rm.frames + 1 ≤ R.frames ∧ 8 + (maxL + 11) + rm.locals ≤ R.locals)
    (hP : va_P E.1 classes ws H) (hD : va_D A ws) (isC : List Nat) (hC : isC.map (fun i => ws[i]?) = wc.map some) (hnC : va_nd isC = true)
    (hn : As.length = n) (hsize : ls.size = nL) (hst : st0 = As.reverse ++ rest) (hW : (rest.map fun v => v.category).sum ≤ 8) (hdg : decode cc pc = .ok (.invokestatic index, 3)) (hf : cells + rm.cells ≤ R.cells ∧ slots + rm.slots ≤ R.slots) :
    va_Run p l e R s m args below meth c H locs cells slots rm.cells rm.slots (F0 m pc ls st0) rest (Qc As.toArray) free := by
  have hPc := hP.sub isC (va_mapsub hC)
  have hDc := hD.sub isC hnC hC
  have ok : ∀ w ∈ wqN y bytes maxL ret, w.before args s = true := fun w h => Sx.2.2.2.2 w (hsub w (hw w h))
  exact va_runSN Sx hM (bytes := bytes) (maxL := maxL) (ret := ret) (host := host) ⟨va_cnB n Sx.2.2.2.2 (ta_gi hsub (ta_c (hw _ (by simp)))) rfl rfl rfl hl (ok _ (by simp)) hd hR, ok _ (by simp), trivial⟩ ⟨PreW.blind, fun U hU hWm => ⟨rfl, by rw [hU], by rw [hU]; exact hPc, hK.warm hWm, hDc.weaken (fun _ _ _ _ => trivial)⟩⟩ rfl hn hsize hst (lv_room hW) hdg hf
/-- a new array: its class is the one that is known -/
theorem na_i {atype : ArrayType} (hexec : p.tables.exec = Jvm.exec) (hb : c.code = cc) (harr : (Cond.arrayClass (newarray.typeOf atype)).before args s = true) (t0 : Nat) {cA : ClassId} {ty : FieldType} (hty : newarray.typeOf atype = ty) (ht : (tys_ E)[t0]? = some (cA, ty)) (hprim : ∀ (U : State) (x : ClassId), va_RA U x ty → U.vm.findClass ("[" ++ ty.toString) = some x) (hK : KK E s) (hP : va_P E.1 classes ws H) (hD : va_D A ws) (hS : va_S A H0 H locs) (hA : ∀ q, H0.size ≤ q → A q)
    {n : Int32} {N' : Nat} {a0 : vp_A} (ha : ∀ cA : ClassId, vp_cell cA a0 = arrV cA N' (fun _ => defaultValue ty)) (hn : ¬ n < 0) (hN : n.toNatClampNeg = N') (hbytes : N' * componentBytes ty ≤ 536870912) (hcells : cells + 1 ≤ R.cells) (hslots : slots + N' ≤ R.slots) (hdg : decode cc pc = .ok (.newarray atype, 2))
    (kk : ∀ (q : Nat) (H1 : Heap), va_P E.1 classes (ws ++ [(q, .inl (cA, a0))]) H1 → va_D A (ws ++ [(q, .inl (cA, a0))]) → va_S A H0 H1 locs →
      W p l e R s m args below meth c H1 locs (cells + 1) (slots + N') Q (F0 m (pc + 2) ls (.ref q :: rest))) : W p l e R s m args below meth c H locs cells slots Q (F0 m pc ls (.int n :: rest)) := by
  refine va_newa hexec hb harr hty hK.1 hP hD hS hA ha hn hN hbytes hcells hslots hdg (fun q cA1 H1 hK1 hP1 hD1 hS1 => ?_)
  have h1 := hprim s _ (hK1.2 3 (cA1, ty) rfl).2
  have h0 := hprim s _ (hK.1.2 t0 _ ht).2
  have e1 : cA1 = cA := Option.some.inj (h1.symm.trans h0)
  subst e1
  exact kk q H1 hP1 hD1 hS1
end Cl
section Ar
variable {p : Program} {l : Launch} {e : Env} {R : Room} {s : State} {m : MethodId} {args : Array Value} {below : List Frame} {meth : Method} {c : Code} {H H0 : Heap} {locs : List Loc} {cells slots : Nat} {cc : ByteArray} {pc : Nat} {ls : Array Slot} {E : EE} {A : Nat → Prop} {ws : va_W} {Q : State → Prop} {rest : List Value} {a : Nat} {n : Nat}
theorem ia_i {f : Nat → Int32} (k : Nat) (hexec : p.tables.exec = Jvm.exec) (hb : c.code = cc) (hK : KK E s) (hP : va_P E.1 classes ws H) (q0 : Nat) (ha : ws[q0]? = some (a, .inl (E.2.1, n, .inl f))) (hk : k < n) (hn : n < 2 ^ 31) (hdg : decode cc pc = .ok (.iaload, 1))
    (kk : W p l e R s m args below meth c H locs cells slots Q (F0 m (pc + 1) ls (.int (f k) :: rest))) : W p l e R s m args below meth c H locs cells slots Q (F0 m pc ls (.int (nI k) :: .ref a :: rest)) := by
  refine va_iald hexec hb hK.1 hP q0 0 ha rfl (vp_in_nI hk hn) hdg ?_
  rw [nI_clamp (by omega)]
  exact kk
theorem ia_l {f : Nat → Int64} (k : Nat) (hexec : p.tables.exec = Jvm.exec) (hb : c.code = cc) (hK : KK E s) (hP : va_P E.1 classes ws H) (q0 : Nat) (ha : ws[q0]? = some (a, .inl (E.2.2.1, n, .inr (.inl f)))) (hk : k < n) (hn : n < 2 ^ 31) (hdg : decode cc pc = .ok (.laload, 1))
    (kk : W p l e R s m args below meth c H locs cells slots Q (F0 m (pc + 1) ls (.long (f k) :: rest))) : W p l e R s m args below meth c H locs cells slots Q (F0 m pc ls (.int (nI k) :: .ref a :: rest)) := by
  refine va_lald hexec hb hK.1 hP q0 1 ha rfl (vp_in_nI hk hn) hdg ?_
  rw [nI_clamp (by omega)]
  exact kk
theorem ia_z {f : Nat → Int32} (k : Nat) (hexec : p.tables.exec = Jvm.exec) (hb : c.code = cc) (hK : KK E s) (hP : va_P E.1 classes ws H) (q0 : Nat) (ha : ws[q0]? = some (a, .inl (E.2.2.2, n, .inl f))) (hk : k < n) (hn : n < 2 ^ 31) (hdg : decode cc pc = .ok (.baload, 1))
    (kk : W p l e R s m args below meth c H locs cells slots Q (F0 m (pc + 1) ls (.int (f k) :: rest))) : W p l e R s m args below meth c H locs cells slots Q (F0 m pc ls (.int (nI k) :: .ref a :: rest)) := by
  refine va_zald hexec hb hK.1 hP q0 2 ha rfl (vp_in_nI hk hn) hdg ?_
  rw [nI_clamp (by omega)]
  exact kk
theorem as_i {f : Nat → Int32} {x : Int32} (k : Nat) (hexec : p.tables.exec = Jvm.exec) (hb : c.code = cc) (hK : KK E s) (hP : va_P E.1 classes ws H) (hD : va_D A ws) (hS : va_S A H0 H locs) (q0 : Nat) (ha : ws[q0]? = some (a, .inl (E.2.1, n, .inl f))) (hk : k < n) (hn : n < 2 ^ 31) (hdg : decode cc pc = .ok (.iastore, 1))
    (kk : ∀ (H1 : Heap) (locs1 : List Loc), va_P E.1 classes (ws.set q0 (a, .inl (E.2.1, n, .inl (upd f k x)))) H1 → va_D A (ws.set q0 (a, .inl (E.2.1, n, .inl (upd f k x)))) → va_S A H0 H1 locs1 → W p l e R s m args below meth c H1 locs1 cells slots Q (F0 m (pc + 1) ls rest)) : W p l e R s m args below meth c H locs cells slots Q (F0 m pc ls (.int x :: .int (nI k) :: .ref a :: rest)) := by
  refine va_iast hexec hb hK.1 hP hD hS q0 0 ha rfl (vp_in_nI hk hn) hdg ?_
  rw [nI_clamp (by omega)]
  exact kk
theorem as_l {f : Nat → Int64} {x : Int64} (k : Nat) (hexec : p.tables.exec = Jvm.exec) (hb : c.code = cc) (hK : KK E s) (hP : va_P E.1 classes ws H) (hD : va_D A ws) (hS : va_S A H0 H locs) (q0 : Nat) (ha : ws[q0]? = some (a, .inl (E.2.2.1, n, .inr (.inl f)))) (hk : k < n) (hn : n < 2 ^ 31) (hdg : decode cc pc = .ok (.lastore, 1))
    (kk : ∀ (H1 : Heap) (locs1 : List Loc), va_P E.1 classes (ws.set q0 (a, .inl (E.2.2.1, n, .inr (.inl (vp_updL f k x))))) H1 → va_D A (ws.set q0 (a, .inl (E.2.2.1, n, .inr (.inl (vp_updL f k x))))) → va_S A H0 H1 locs1 → W p l e R s m args below meth c H1 locs1 cells slots Q (F0 m (pc + 1) ls rest)) : W p l e R s m args below meth c H locs cells slots Q (F0 m pc ls (.long x :: .int (nI k) :: .ref a :: rest)) := by
  refine va_last hexec hb hK.1 hP hD hS q0 1 ha rfl (vp_in_nI hk hn) hdg ?_
  rw [nI_clamp (by omega)]
  exact kk
theorem nar_z {x : Int32} (h : x = 0 ∨ x = 1) : vp_nar .boolean x = x := by rcases h with rfl | rfl <;> decide
theorem as_z {f : Nat → Int32} {x : Int32} (k : Nat) (hexec : p.tables.exec = Jvm.exec) (hb : c.code = cc) (hK : KK E s) (hP : va_P E.1 classes ws H) (hD : va_D A ws) (hS : va_S A H0 H locs) (q0 : Nat) (ha : ws[q0]? = some (a, .inl (E.2.2.2, n, .inl f))) (hk : k < n) (hn : n < 2 ^ 31) (hz : x = 0 ∨ x = 1) (hdg : decode cc pc = .ok (.bastore, 1))
    (kk : ∀ (H1 : Heap) (locs1 : List Loc), va_P E.1 classes (ws.set q0 (a, .inl (E.2.2.2, n, .inl (upd f k x)))) H1 → va_D A (ws.set q0 (a, .inl (E.2.2.2, n, .inl (upd f k x)))) → va_S A H0 H1 locs1 → W p l e R s m args below meth c H1 locs1 cells slots Q (F0 m (pc + 1) ls rest)) : W p l e R s m args below meth c H locs cells slots Q (F0 m pc ls (.int x :: .int (nI k) :: .ref a :: rest)) := by
  refine va_zast hexec hb hK.1 hP hD hS q0 2 ha rfl (vp_in_nI hk hn) hdg ?_
  rw [nI_clamp (by omega), nar_z hz]
  exact kk
theorem tp_i {x y : Int32} (h : x = y) (k : W p l e R s m args below meth c H locs cells slots Q (F0 m pc ls (.int y :: rest))) : W p l e R s m args below meth c H locs cells slots Q (F0 m pc ls (.int x :: rest)) := h ▸ k
theorem tp_l {x y : Int64} (h : x = y) (k : W p l e R s m args below meth c H locs cells slots Q (F0 m pc ls (.long y :: rest))) : W p l e R s m args below meth c H locs cells slots Q (F0 m pc ls (.long x :: rest)) := h ▸ k
end Ar
