section Cq
variable {p : Program} {l : Launch} {e : Env} {R : Room} {s : State} {m : MethodId} {args : Array Value} {below : List Frame} {meth : Method} {c : Code} {H H0 : Heap} {locs : List Loc} {cells slots mc ms : Nat} {cc : ByteArray} {pc : Nat} {ls : Array Slot} {E : EE} {A : Nat → Prop} {ws wc wr : va_W} {S : Type} {W' : S → va_W} {Q : State → Prop} {rest st0 : List Value} {a : Array Value}
variable {y : MethodName} {bytes : ByteArray} {maxL nL n index : Nat} {ret : Option FieldType} {rm : Room} {Qc : Array Value → State → Outcome → State → Prop} {free : Addr → Prop} {Ts : List Cond} {own : String} {b ci : Nat} {As : List Value}
theorem rn_Vq (q0 : Nat) (Sx : CallFix p m c cc nL s args Ts own) (hsub : ∀ w ∈ ta_ws, w ∈ Ts) (hw : ∀ w ∈ wqV own index y bytes maxL ret, w ∈ ta_ws) (hd : hdW y n) (hK : KK E s)
    (hM : Met l y (.code y bytes maxL ret :: ta_ws) rm (va_Pc (.ref b :: As) (PreW E wc H.size)) Qc rm.cells rm.slots free) (hR : rm.frames + 1 ≤ R.frames ∧ 8 + (maxL + 11) + rm.locals ≤ R.locals)
    (hP : va_P E.1 classes ws H) (hD : va_D A ws) (isC : List Nat) (hC : isC.map (fun i => ws[i]?) = wc.map some) (hnC : va_nd isC = true) {T : u_T} {N : Nat} {fs : List Value} (hcl : classes[ci]? = some (y.cls, T, N)) (he : wc[q0]? = some (b, .inr (ci, fs)))
    (hn : As.length = n) (hsize : ls.size = nL) (hst : st0 = As.reverse ++ .ref b :: rest) (hW : (rest.map fun v => v.category).sum ≤ 8) (hdg : decode cc pc = .ok (.invokevirtual index, 3)) (hf : cells + rm.cells ≤ R.cells ∧ slots + rm.slots ≤ R.slots) :
    va_Run p l e R s m args below meth c H locs cells slots rm.cells rm.slots (F0 m pc ls st0) rest (Qc (Value.ref b :: As).toArray) free := by
  have hPc := hP.sub isC (va_mapsub hC)
  have hDc := hD.sub isC hnC hC
  have ok : ∀ w ∈ wqV own index y bytes maxL ret, w.before args s = true := fun w h => Sx.2.2.2.2 w (hsub w (hw w h))
  refine va_runV Sx hM (C := y.cls) (bytes := bytes) (maxL := maxL) (ret := ret) (cwV n Sx.2.2.2.2 (ta_gi hsub ?_) rfl rfl rfl ⟨rfl, hd⟩ hR) ⟨PreW.blind, va_recv hK.1 hPc hcl he, fun U hU hWm => ⟨rfl, by rw [hU], by rw [hU]; exact hPc, hK.warm hWm, hDc.weaken (fun _ _ _ _ => trivial)⟩⟩ rfl hn hsize hst (lv_room hW) hdg hf
  intro w h
  rcases List.mem_append.mp h with h1 | h1
  · exact hw w (by simp only [List.mem_cons, List.not_mem_nil, or_false] at h1 ⊢; rcases h1 with h1 | h1 | h1 | h1 <;> simp [h1])
  · exact ta_c (hw _ (by simp)) w h1
end Cq
