/-! ===== rows for the library's list: the empty array, class objects, copies ===== -/
section HVJ
variable {p : Program} {l : Launch} {e : Env} {R : Room} {s : State} {m : MethodId} {args : Array Value} {below : List Frame} {meth : Method} {c : Code} {H : Heap} {locs : List Loc} {cells slots : Nat} {Q : State → Prop}
variable {cc : ByteArray} {pc : Nat} {ls : Array Slot} {rest : List Value} {a : Nat} {G : hv_G} {h h0 : hv} {own : String} {nL : Nat} {Ts : List Cond}
theorem hv_gets (C : hv_C p s m args meth c own cc nL Ts G h0) (I : hv_I G h0 s h H locs) {index : Nat} (hlink : Cond.fieldLink own index "java/util/ArrayList" "DEFAULTCAPACITY_EMPTY_ELEMENTDATA" "[Ljava/lang/Object;" ∈ Ts) (hdg : decode cc pc = .ok (.getstatic index, 3))
    (kk : W p l e R s m args below meth c H locs cells slots Q (F0 m (pc + 3) ls (.ref (G.2.2 1) :: rest))) : W p l e R s m args below meth c H locs cells slots Q (F0 m pc ls rest) :=
  va_gets C.1 C.2.1 C.E.2.2.2.2.1.1 I.2.2 C.2.2.2.1 (C.ts hlink) (fun _ h9 => h9) hdg kk
theorem hv_tlen (C : hv_C p s m args meth c own cc nL Ts G h0) (I : hv_I G h0 s h H locs) (hdg : decode cc pc = .ok (.arraylength, 1))
    (kk : W p l e R s m args below meth c H locs cells slots Q (F0 m (pc + 1) ls (.int 0 :: rest))) : W p l e R s m args below meth c H locs cells slots Q (F0 m pc ls (.ref (G.2.2 1) :: rest)) :=
  va_tlen C.1 C.2.1 C.E.2.2.2.2.1.2 I.2.2 (v := 0) rfl hdg kk
theorem hv_t0 (C : hv_C p s m args meth c own cc nL Ts G h0) (I : hv_I G h0 s h H locs) : h (G.2.2 1) = none := by
  obtain ⟨cell, h1, h2, h3, h4, h5, h6, h7⟩ := C.E.2.2.2.2.1.2
  cases hx : h (G.2.2 1) with
  | none => rfl
  | some e => exact absurd (I.2.1 _ (by rw [hx]; exact fun z => nomatch z)) h7
theorem hv_ldcM (C : hv_C p s m args meth c own cc nL Ts G h0) {index : Nat} (hlink : Cond.classLink own index "[Ljava/lang/Object;" ∈ Ts) (hdg : decode cc pc = .ok (.ldc index, 2))
    (kk : W p l e R s m args below meth c H locs cells slots Q (F0 m (pc + 2) ls (.ref (G.2.2 0) :: rest))) : W p l e R s m args below meth c H locs cells slots Q (F0 m pc ls rest) :=
  va_ldcM C.1 C.2.1 C.2.2.2.1 (C.ts hlink) C.E.2.2.2.1 hdg kk
theorem hv_arrc (C : hv_C p s m args meth c own cc nL Ts G h0) (I : hv_I G h0 s h H locs) {n : Nat} {f : Nat → Option Nat} (ha : h a = some (.inl (G.2.1 3, n, .inr (.inr (.inr (.inr f)))))) : ∃ cell : Cell, H[a]? = some cell ∧ cell.vm.isStatics = false ∧ s.vm.findClass "[Ljava/lang/Object;" = some cell.cls :=
  ⟨_, I.1 a _ ha, rfl, va_nmO (C := "java/lang/Object") (C.K.2 3 _ rfl).2 (by decide)⟩
theorem hv_getC (C : hv_C p s m args meth c own cc nL Ts G h0) (I : hv_I G h0 s h H locs) (hsize : ls.size = nL) {n : Nat} {f : Nat → Option Nat} (ha : h a = some (.inl (G.2.1 3, n, .inr (.inr (.inr (.inr f)))))) {index : Nat} (hlink : Cond.methodLink own index ⟨"java/lang/Object", "getClass", "()Ljava/lang/Class;"⟩ ∈ Ts) (hsel : Cond.selects "[Ljava/lang/Object;" ⟨"java/lang/Object", "getClass", "()Ljava/lang/Class;"⟩ ⟨"java/lang/Object", "getClass", "()Ljava/lang/Class;"⟩ ∈ Ts) (hinst : Cond.instanceMethod ⟨"java/lang/Object", "getClass", "()Ljava/lang/Class;"⟩ ∈ Ts) (hnat : Cond.native ⟨"java/lang/Object", "getClass", "()Ljava/lang/Class;"⟩ ∈ Ts) (hframes : 1 ≤ R.frames) (hlocals : (rest.map fun v => v.category).sum + 14 ≤ R.locals) (hdg : decode cc pc = .ok (.invokevirtual index, 3))
    (kk : W p l e R s m args below meth c H locs cells slots Q (F0 m (pc + 3) ls (.ref (G.2.2 0) :: rest))) : W p l e R s m args below meth c H locs cells slots Q (F0 m pc ls (.ref a :: rest)) :=
  va_getC C.1 C.2.1 (C.2.2.1.trans hsize.symm) C.2.2.2.1 (C.ts hlink) (va_Nw.use rfl (C.nw (by decide +kernel))) (C.ts hsel) (C.ts hinst) (C.ts hnat) C.E.2.2.2.1 (hv_arrc C I ha) hframes hlocals hdg kk
/-- what may lie in an array of Objects here -/
def hv_El (h : hv) (f : Nat → Option Nat) (n : Nat) : Prop := ∀ i, i < n → ∀ y, f i = some y → ∃ (ci : Nat) (fs : List Value) (r : vw_C), h y = some (.inr (ci, fs)) ∧ vwCl[ci]? = some r ∧ Cond.castable r.1 "java/lang/Object" ∈ hv_nw
theorem hv_copy (C : hv_C p s m args meth c own cc nL Ts G h0) (I : hv_I G h0 s h H locs) (hsize : ls.size = nL) {index : Nat} (hlink : Cond.methodLink own index arraycopyName ∈ Ts) (hnat : Cond.native arraycopyName ∈ Ts) (hstat : Cond.static arraycopyName ∈ Ts) (hini : Cond.initialized "java/lang/System" ∈ Ts) {a0 n0 n1 : Nat} {f g : Nat → Option Nat} (ha0 : h a0 = some (.inl (G.2.1 3, n0, .inr (.inr (.inr (.inr f)))))) (ha : h a = some (.inl (G.2.1 3, n1, .inr (.inr (.inr (.inr g)))))) {n : Int32} (h3 : ¬ n < 0) (h4 : n.toNatClampNeg ≤ n0) (h5 : n.toNatClampNeg ≤ n1) (hel : hv_El h f n.toNatClampNeg) (hframes : 1 ≤ R.frames) (hlocals : (rest.map fun v => v.category).sum + (nativeFrameWords "java/lang/System" "arraycopy" 5 + 11) ≤ R.locals) (hdg : decode cc pc = .ok (.invokestatic index, 3))
    (kk : ∀ (H1 : Heap) (locs1 : List Loc), hv_I G h0 s (hv_up h a (.inl (G.2.1 3, n1, .inr (.inr (.inr (.inr (va_cpy f g 0 0 n.toNatClampNeg))))))) H1 locs1 → W p l e R s m args below meth c H1 locs1 cells slots Q (F0 m (pc + 3) ls rest)) : W p l e R s m args below meth c H locs cells slots Q (F0 m pc ls (.int n :: .int 0 :: .ref a :: .int 0 :: .ref a0 :: rest)) := by
  obtain ⟨q0, hq0⟩ := hv_ix I.1 ha0
  obtain ⟨q1, hq1⟩ := hv_ix I.1 ha
  refine va_copyM C.1 C.2.1 (C.2.2.1.trans hsize.symm) C.2.2.2.1 (C.ts hlink) (C.ts hnat) (C.ts hstat) (C.ts hini) C.K (hv_all I.1) (hv_ws_D I.2.1) I.2.2 q0 q1 3 3 hq0 hq1 rfl rfl (sp := 0) (dp := 0) (n := n) (by decide) (by decide) h3 (by rw [sb_cl0]; omega) (by rw [sb_cl0]; omega) (fun i hi y hy => ?_) hframes hlocals hdg (fun H1 locs1 h1 _ h3 => ?_)
  · rw [sb_cl0, Nat.zero_add] at hy
    obtain ⟨ci, fs, r, e1, e2, e3⟩ := hel i hi y hy
    refine va_rAny C.K (hv_one I.1 e1) (q0 := 0) rfl e2 (fun comp c0 g1 g2 => ?_)
    obtain ⟨c1, t1, f1, f2, f3⟩ := Cond.castable_spec (va_Nw.use (A := args) rfl (C.nw e3))
    cases g1.symm.trans f2
    cases g2.symm.trans f1
    exact f3
  · rw [sb_cl0] at h1
    exact kk H1 locs1 (I.set ha hq1 h1 h3)
end HVJ
