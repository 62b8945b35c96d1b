/-! ===== contracts over views: calls, answers, throws ===== -/
def hv_B (G : hv_G) (h : hv) (sz : Nat) (U : State) : Prop := U.heap.size = sz ∧ hv_P G h U.heap ∧ hv_E G (hv_A h sz) U U.heap
def hv_Bq (G : hv_G) (h : hv) (sz : Nat) (u : hv) (t : State) : Prop := hv_P G u t.heap ∧ ∀ a, u a ≠ none → hv_A h sz a
abbrev hv_rm (f mc ms lo : Nat) : Room := { frames := f, cells := mc, slots := ms, locals := lo }
abbrev hv_Mi (l : Launch) (y : MethodName) (ws : List Cond) (f lo mc ms : Nat) (G : hv_G) (h : hv) (sz : Nat) (avs : List Value) (post : Int32 → hv → Prop) : Prop := Met l y ws (hv_rm f mc ms lo) (va_Pc avs (hv_B G h sz)) (va_Qi post (hv_Bq G h sz) (hv_A h sz)) mc ms (hv_A h sz)
abbrev hv_Ml (l : Launch) (y : MethodName) (ws : List Cond) (f lo mc ms : Nat) (G : hv_G) (h : hv) (sz : Nat) (avs : List Value) (post : Int64 → hv → Prop) : Prop := Met l y ws (hv_rm f mc ms lo) (va_Pc avs (hv_B G h sz)) (va_Ql post (hv_Bq G h sz) (hv_A h sz)) mc ms (hv_A h sz)
abbrev hv_Mv (l : Launch) (y : MethodName) (ws : List Cond) (f lo mc ms : Nat) (G : hv_G) (h : hv) (sz : Nat) (avs : List Value) (post : hv → Prop) : Prop := Met l y ws (hv_rm f mc ms lo) (va_Pc avs (hv_B G h sz)) (va_Qv post (hv_Bq G h sz) (hv_A h sz)) mc ms (hv_A h sz)
abbrev hv_Mq (l : Launch) (y : MethodName) (ws : List Cond) (f lo mc ms : Nat) (G : hv_G) (h : hv) (sz : Nat) (avs : List Value) (post : Option Nat → hv → Prop) : Prop := Met l y ws (hv_rm f mc ms lo) (va_Pc avs (hv_B G h sz)) (va_Qq post (hv_Bq G h sz) (hv_A h sz)) mc ms (hv_A h sz)
abbrev hv_X (G : hv_G) (h : hv) (sz : Nat) (px : String → hv → Prop) : String → State → State → Prop := vx_X (fun _ : hv => True) (fun E u t => px E u ∧ hv_Bq G h sz u t) (hv_A h sz)
abbrev hv_Xi (l : Launch) (y : MethodName) (ws : List Cond) (f lo mc ms : Nat) (G : hv_G) (h : hv) (sz : Nat) (avs : List Value) (post : Int32 → hv → Prop) (px : String → hv → Prop) : Prop := vx_Met l y ws (hv_rm f mc ms lo) (va_Pc avs (hv_B G h sz)) (va_Qi post (hv_Bq G h sz) (hv_A h sz)) (hv_X G h sz px) mc ms (hv_A h sz)
abbrev hv_Xq (l : Launch) (y : MethodName) (ws : List Cond) (f lo mc ms : Nat) (G : hv_G) (h : hv) (sz : Nat) (avs : List Value) (post : Option Nat → hv → Prop) (px : String → hv → Prop) : Prop := vx_Met l y ws (hv_rm f mc ms lo) (va_Pc avs (hv_B G h sz)) (va_Qq post (hv_Bq G h sz) (hv_A h sz)) (hv_X G h sz px) mc ms (hv_A h sz)
theorem hv_blind {G : hv_G} {h : hv} {sz : Nat} {avs : List Value} : FrameBlind (va_Pc avs (hv_B G h sz)) := by
  intro a U g mk q
  obtain ⟨q0, q1, q2, q3⟩ := q
  exact ⟨q0, q1, q2, hv_E.warm (s := U) (U := U.calling g mk a) (State.WarmedH.refl U) q3⟩
section HVC
variable {p : Program} {l : Launch} {e : Env} {R : Room} {s : State} {m : MethodId} {args : Array Value} {below : List Frame} {meth : Method} {c : Code} {H : Heap} {locs : List Loc} {cells slots : Nat} {Q : State → Prop}
variable {cc : ByteArray} {pc : Nat} {ls : Array Slot} {st0 rest : List Value} {a : Nat} {G : hv_G} {h h0 : hv} {own : String} {nL : Nat} {Ts : List Cond} {mc ms mc1 ms1 : Nat} {aa : Array Value}
theorem hv_sub (I : hv_I G h0 s h H locs) : ∀ q, hv_A h H.size q → hv_A h0 s.heap.size q := fun q hq => hq.elim (I.2.1 q) (fun z => Or.inr (Nat.le_trans I.2.2.1 z))
theorem hv_C.E (C : hv_C p s m args meth c own cc nL Ts G h0) : hv_E G (hv_A h0 s.heap.size) s s.heap := C.2.2.2.2.2.2
theorem hv_pre (C : hv_C p s m args meth c own cc nL Ts G h0) (I : hv_I G h0 s h H locs) {U : State} (hU : U.heap = H) (hW : s.WarmedH U.vm) : hv_B G h H.size U := by
  refine ⟨by rw [hU], by rw [hU]; exact I.1, ?_⟩
  rw [hU]
  exact hv_E.warm hW ((C.E.kept I.2.2.2.1).narrow (hv_sub I))
theorem hv_preS (C : hv_C p s m args meth c own cc nL Ts G h0) (I : hv_I G h0 s h H locs) {As : List Value} : PreS s H (va_Pc As (hv_B G h H.size)) As := ⟨hv_blind, fun U hU hW => ⟨rfl, hv_pre C I hU hW⟩⟩
theorem hv_preV (C : hv_C p s m args meth c own cc nL Ts G h0) (I : hv_I G h0 s h H locs) {As : List Value} {b ci : Nat} {fs : List Value} (hb : h b = some (.inr (ci, fs))) {r : vw_C} (hc : vwCl[ci]? = some r) : PreV s H r.1 b (va_Pc (.ref b :: As) (hv_B G h H.size)) As := ⟨hv_blind, hv_recv C I hb hc, fun U hU hW => ⟨rfl, hv_pre C I hU hW⟩⟩
theorem hv_ki (I : hv_I G h0 s h H locs) {post : Int32 → hv → Prop} (hr : va_Run p l e R s m args below meth c H locs cells slots mc ms (F0 m pc ls st0) rest (va_Qi post (hv_Bq G h H.size) (hv_A h H.size) aa) (hv_A h H.size))
    (kk : ∀ (r : Int32) (u : hv) (H1 : Heap) (locs1 : List Loc), post r u → hv_I G h0 s u H1 locs1 → W p l e R s m args below meth c H1 locs1 (cells + mc) (slots + ms) Q (F0 m (pc + 3) ls (.int r :: rest))) : W p l e R s m args below meth c H locs cells slots Q (F0 m pc ls st0) :=
  va_calli hr I.2.2 (fun q _ hq => hv_sub I q hq) (hv_sub I) (fun r u t H1 locs1 ht _ hp hB _ _ hS => kk r u H1 locs1 hp ⟨ht ▸ hB.1, fun a ha => hv_sub I a (hB.2 a ha), hS⟩)
theorem hv_kl (I : hv_I G h0 s h H locs) {post : Int64 → hv → Prop} (hr : va_Run p l e R s m args below meth c H locs cells slots mc ms (F0 m pc ls st0) rest (va_Ql post (hv_Bq G h H.size) (hv_A h H.size) aa) (hv_A h H.size))
    (kk : ∀ (r : Int64) (u : hv) (H1 : Heap) (locs1 : List Loc), post r u → hv_I G h0 s u H1 locs1 → W p l e R s m args below meth c H1 locs1 (cells + mc) (slots + ms) Q (F0 m (pc + 3) ls (.long r :: rest))) : W p l e R s m args below meth c H locs cells slots Q (F0 m pc ls st0) :=
  va_calll hr I.2.2 (fun q _ hq => hv_sub I q hq) (hv_sub I) (fun r u t H1 locs1 ht _ hp hB _ _ hS => kk r u H1 locs1 hp ⟨ht ▸ hB.1, fun a ha => hv_sub I a (hB.2 a ha), hS⟩)
theorem hv_kv (I : hv_I G h0 s h H locs) {post : hv → Prop} (hr : va_Run p l e R s m args below meth c H locs cells slots mc ms (F0 m pc ls st0) rest (va_Qv post (hv_Bq G h H.size) (hv_A h H.size) aa) (hv_A h H.size))
    (kk : ∀ (u : hv) (H1 : Heap) (locs1 : List Loc), post u → hv_I G h0 s u H1 locs1 → W p l e R s m args below meth c H1 locs1 (cells + mc) (slots + ms) Q (F0 m (pc + 3) ls rest)) : W p l e R s m args below meth c H locs cells slots Q (F0 m pc ls st0) :=
  va_callv hr I.2.2 (fun q _ hq => hv_sub I q hq) (hv_sub I) (fun u t H1 locs1 ht _ hp hB _ _ hS => kk u H1 locs1 hp ⟨ht ▸ hB.1, fun a ha => hv_sub I a (hB.2 a ha), hS⟩)
theorem hv_kq (I : hv_I G h0 s h H locs) {post : Option Nat → hv → Prop} (hr : va_Run p l e R s m args below meth c H locs cells slots mc ms (F0 m pc ls st0) rest (va_Qq post (hv_Bq G h H.size) (hv_A h H.size) aa) (hv_A h H.size))
    (kk : ∀ (r : Option Nat) (u : hv) (H1 : Heap) (locs1 : List Loc), post r u → hv_I G h0 s u H1 locs1 → W p l e R s m args below meth c H1 locs1 (cells + mc) (slots + ms) Q (F0 m (pc + 3) ls (va_rf r :: rest))) : W p l e R s m args below meth c H locs cells slots Q (F0 m pc ls st0) :=
  va_callq hr I.2.2 (fun q _ hq => hv_sub I q hq) (hv_sub I) (fun r u t H1 locs1 ht _ hp hB _ _ hS => kk r u H1 locs1 hp ⟨ht ▸ hB.1, fun a ha => hv_sub I a (hB.2 a ha), hS⟩)
/-! .. of callees that may throw -/
theorem hv_xki (I : hv_I G h0 s h H locs) {post : Int32 → hv → Prop} {px : String → hv → Prop} (hr : vx_Run p l e R s m args below meth c H locs cells slots mc ms (F0 m pc ls st0) rest (va_Qi post (hv_Bq G h H.size) (hv_A h H.size) aa) (hv_X G h H.size px) (hv_A h H.size))
    (kx : ∀ (E : String) (ce : Cell) (q9 : Addr) (u : hv) (H1 : Heap) (locs1 : List Loc), px E u → hv_I G h0 s u H1 locs1 → H1[q9]? = some ce → ce.vm = .none → s.vm.findClass E = some ce.cls → vx_W p l e R s m args below meth c H1 locs1 (cells + mc) (slots + ms) Q (F0 m pc ls rest) q9)
    (kk : ∀ (r : Int32) (u : hv) (H1 : Heap) (locs1 : List Loc), post r u → hv_I G h0 s u H1 locs1 → W p l e R s m args below meth c H1 locs1 (cells + mc) (slots + ms) Q (F0 m (pc + 3) ls (.int r :: rest))) : W p l e R s m args below meth c H locs cells slots Q (F0 m pc ls st0) :=
  vx_calli hr I.2.2 (fun q _ hq => hv_sub I q hq) (hv_sub I) (fun q _ hq => hv_sub I q hq)
    (fun E ce q9 u t H1 locs1 ht _ _ hB _ _ hS h1 h2 h3 => kx E ce q9 u H1 locs1 hB.1 ⟨ht ▸ hB.2.1, fun a ha => hv_sub I a (hB.2.2 a ha), hS⟩ h1 h2 h3)
    (fun r u t H1 locs1 ht _ hp hB _ _ hS => kk r u H1 locs1 hp ⟨ht ▸ hB.1, fun a ha => hv_sub I a (hB.2 a ha), hS⟩)
theorem hv_xkq (I : hv_I G h0 s h H locs) {post : Option Nat → hv → Prop} {px : String → hv → Prop} (hr : vx_Run p l e R s m args below meth c H locs cells slots mc ms (F0 m pc ls st0) rest (va_Qq post (hv_Bq G h H.size) (hv_A h H.size) aa) (hv_X G h H.size px) (hv_A h H.size))
    (kx : ∀ (E : String) (ce : Cell) (q9 : Addr) (u : hv) (H1 : Heap) (locs1 : List Loc), px E u → hv_I G h0 s u H1 locs1 → H1[q9]? = some ce → ce.vm = .none → s.vm.findClass E = some ce.cls → vx_W p l e R s m args below meth c H1 locs1 (cells + mc) (slots + ms) Q (F0 m pc ls rest) q9)
    (kk : ∀ (r : Option Nat) (u : hv) (H1 : Heap) (locs1 : List Loc), post r u → hv_I G h0 s u H1 locs1 → W p l e R s m args below meth c H1 locs1 (cells + mc) (slots + ms) Q (F0 m (pc + 3) ls (va_rf r :: rest))) : W p l e R s m args below meth c H locs cells slots Q (F0 m pc ls st0) := by
  intro T hT X
  rcases hr T hT X with ⟨v, st₀, t, T', L, g0, X', hL, e1, e2, ⟨⟨r, u, hv9, hp, hB⟩, hF⟩, st⟩ | ⟨q, st₀, t, T', L, E, ce, g0, X', hL, e1, e2, ⟨u, _, hB, hF⟩, hce, hcv, hcl, st⟩
  · cases hv9
    obtain ⟨-, -, hS⟩ := vx_keep g0 e1 I.2.2 (fun q _ hq => hv_sub I q hq) (hv_sub I) hL hF
    obtain ⟨t2, a1, b1⟩ := kk r u T'.heap (locs ++ L) hp ⟨e1 ▸ hB.1, fun a ha => hv_sub I a (hB.2 a ha), hS⟩ T' rfl X'
    exact ⟨t2, st t2 a1, b1⟩
  · obtain ⟨-, -, hS⟩ := vx_keep g0 e1 I.2.2 (fun q _ hq => hv_sub I q hq) (hv_sub I) hL hF
    obtain ⟨t2, a1, b1⟩ := kx E ce q u T'.heap (locs ++ L) hB.1 ⟨e1 ▸ hB.2.1, fun a ha => hv_sub I a (hB.2.2 a ha), hS⟩ (e1 ▸ hce) hcv hcl T' rfl X'
    exact ⟨t2, st.trans a1, b1⟩
theorem hv_xout {Qc : Array Value → State → Outcome → State → Prop} {px : String → hv → Prop} {E : String} {ce : Cell} {q : Addr} (C : hv_C p s m args meth c own cc nL Ts G h0) (ht : ∀ x ∈ c.exceptionTable.toList, False) (I : hv_I G h0 s h H locs) (hcell : H[q]? = some ce) (hcv : ce.vm = .none) (hcl : s.vm.findClass E = some ce.cls) (hpx : px E h) (hc : cells ≤ mc) (hs : slots ≤ ms) :
    vx_W p l e R s m args below meth c H locs cells slots (vx_MQ below Qc (hv_X G h0 s.heap.size px) args s mc ms (hv_A h0 s.heap.size)) (F0 m pc ls rest) q :=
  vx_out (fun x hx => (ht x hx).elim) C.locks hcell hcv hcl (fun t htt _ => ⟨h, trivial, ⟨hpx, by rw [htt]; exact I.1, I.2.1⟩, I.2.2.F htt⟩) I.2.2.2.2 hc hs
/-! answers -/
theorem hv_iret (C : hv_C p s m args meth c own cc nL Ts G h0) (hr : meth.sig.returnType = some .int) (I : hv_I G h0 s h H locs) {post : Int32 → hv → Prop} {v : Int32} (hp : post v h) (hdg : decode cc pc = .ok (.ireturn, 1)) (hc : cells ≤ mc) (hs : slots ≤ ms) :
    W p l e R s m args below meth c H locs cells slots (MQ below (va_Qi post (hv_Bq G h0 s.heap.size) (hv_A h0 s.heap.size)) args s mc ms (hv_A h0 s.heap.size)) (F0 m pc ls [.int v]) :=
  W.widen hc hs (W.iret C.1 C.2.1 hr (fun t ht _ => ⟨⟨v, h, rfl, hp, by rw [ht]; exact I.1, I.2.1⟩, I.2.2.F ht⟩) I.2.2.2.2 hdg C.locks)
theorem hv_zret (C : hv_C p s m args meth c own cc nL Ts G h0) (hr : meth.sig.returnType = some .boolean) (I : hv_I G h0 s h H locs) {post : Int32 → hv → Prop} {v : Int32} (hz : narrow .boolean (.int v) = .int v) (hp : post v h) (hdg : decode cc pc = .ok (.ireturn, 1)) (hc : cells ≤ mc) (hs : slots ≤ ms) :
    W p l e R s m args below meth c H locs cells slots (MQ below (va_Qi post (hv_Bq G h0 s.heap.size) (hv_A h0 s.heap.size)) args s mc ms (hv_A h0 s.heap.size)) (F0 m pc ls [.int v]) :=
  W.widen hc hs (W.zret C.1 C.2.1 hr hz (fun t ht _ => ⟨⟨v, h, rfl, hp, by rw [ht]; exact I.1, I.2.1⟩, I.2.2.F ht⟩) I.2.2.2.2 hdg C.locks)
theorem hv_lret (C : hv_C p s m args meth c own cc nL Ts G h0) (hr : meth.sig.returnType = some .long) (I : hv_I G h0 s h H locs) {post : Int64 → hv → Prop} {v : Int64} (hp : post v h) (hdg : decode cc pc = .ok (.lreturn, 1)) (hc : cells ≤ mc) (hs : slots ≤ ms) :
    W p l e R s m args below meth c H locs cells slots (MQ below (va_Ql post (hv_Bq G h0 s.heap.size) (hv_A h0 s.heap.size)) args s mc ms (hv_A h0 s.heap.size)) (F0 m pc ls [.long v]) :=
  W.widen hc hs (W.lret C.1 C.2.1 hr (fun t ht _ => ⟨⟨v, h, rfl, hp, by rw [ht]; exact I.1, I.2.1⟩, I.2.2.F ht⟩) I.2.2.2.2 hdg C.locks)
theorem hv_vret (C : hv_C p s m args meth c own cc nL Ts G h0) (hr : meth.sig.returnType = none) (I : hv_I G h0 s h H locs) {post : hv → Prop} (hp : post h) (hdg : decode cc pc = .ok (.return_, 1)) (hc : cells ≤ mc) (hs : slots ≤ ms) :
    W p l e R s m args below meth c H locs cells slots (MQ below (va_Qv post (hv_Bq G h0 s.heap.size) (hv_A h0 s.heap.size)) args s mc ms (hv_A h0 s.heap.size)) (F0 m pc ls []) :=
  W.widen hc hs (W.vret C.1 C.2.1 hr (fun t ht _ => ⟨⟨h, rfl, hp, by rw [ht]; exact I.1, I.2.1⟩, I.2.2.F ht⟩) I.2.2.2.2 hdg C.locks)
theorem hv_qret (C : hv_C p s m args meth c own cc nL Ts G h0) {rt : FieldType} (hr : meth.sig.returnType = some rt) (hrt : (∃ n, rt = .object n) ∨ ∃ t, rt = .array t) (I : hv_I G h0 s h H locs) {post : Option Nat → hv → Prop} {r : Option Nat} (hp : post r h) (hdg : decode cc pc = .ok (.areturn, 1)) (hc : cells ≤ mc) (hs : slots ≤ ms) :
    W p l e R s m args below meth c H locs cells slots (MQ below (va_Qq post (hv_Bq G h0 s.heap.size) (hv_A h0 s.heap.size)) args s mc ms (hv_A h0 s.heap.size)) (F0 m pc ls [va_rf r]) :=
  W.widen hc hs (W.aret C.1 C.2.1 hr hrt (va_rf_or r) (fun t ht _ => ⟨⟨r, h, rfl, hp, by rw [ht]; exact I.1, I.2.1⟩, I.2.2.F ht⟩) I.2.2.2.2 hdg C.locks)
/-- throw new E("text") -/
theorem hv_throw {Qc : Array Value → State → Outcome → State → Prop} {px : String → hv → Prop} (C : hv_C p s m args meth c RX4 cc nL Ts G h0) (ht : ∀ x ∈ c.exceptionTable.toList, False) (I : hv_I G h0 s h H locs) (hl : l.stackTraces = false) (hsize : ls.size = nL) {cls text : String} {names : List String} {ik is ic : Nat} (hcls : Bundle.fit cls = true) (hnames : ∀ n ∈ names, Bundle.fit n = true) (hk : Cond.classLink RX4 ik cls ∈ Ts) (hini : Cond.initialized cls ∈ Ts) (hstr : (is, text) ∈ hv_strs) (hat1 : ∀ w ∈ (vx_atS RX4 ic cls names).filter goodWord, w ∈ Ts) (hat2 : ∀ w ∈ (vx_atS RX4 ic cls names).filter (fun w => !goodWord w), w ∈ hv_nw) (hgood : ∀ w ∈ Cond.classLink RX4 ik cls :: Cond.initialized cls :: vx_atS RX4 ic cls names, vx_ot w = true)
    (d0 : decode cc pc = .ok (.new ik, 3)) (d3 : decode cc (pc + 3) = .ok (.dup, 1)) (d4 : decode cc (pc + 4) = .ok (.ldc is, 2)) (d6 : decode cc (pc + 6) = .ok (.invokespecial ic, 3)) (d9 : decode cc (pc + 9) = .ok (.athrow, 1))
    (hRframes : names.length + 3 < R.frames) (hRlocals : (rest.map fun v => v.category).sum + (13 * (names.length + 1) + 43) ≤ R.locals) (hRcells : cells + 1 ≤ R.cells) (hRslots : slots + 6 ≤ R.slots) (hpx : px cls h) (hc : cells + 1 ≤ mc) (hs : slots + 6 ≤ ms) :
    W p l e R s m args below meth c H locs cells slots (vx_MQ below Qc (hv_X G h0 s.heap.size px) args s mc ms (hv_A h0 s.heap.size)) (F0 m pc ls rest) :=
  vx_throwS (is := is) C.1 C.2.1 hl C.2.2.2.1 hcls hnames (C.ts hk) (C.ts hini) (C.E.2.2.2.2.2.2.1 _ hstr) (vx_hat (fun w hw => C.ts (hat1 w hw)) hat2 (fun w hw => va_Nw.use (hv_nw_tab w hw) (C.nw hw))) hgood C.E.2.2.2.2.2.1.1 C.E.2.2.2.2.2.1.2 I.2.2 (hsize.trans C.2.2.1.symm) d0 d3 d4 d6 d9 (fun x hx => (ht x hx).elim) hRframes hRlocals hRcells hRslots C.locks
    (fun t _ h1 h2 => ⟨h, trivial, ⟨hpx, fun a e ha => (I.1 a e ha).kept (h2 a (hv_lt I.1 ha)), I.2.1⟩, ⟨Nat.le_trans I.2.2.1 h1, fun q g1 g2 => (h2 q (Nat.lt_of_lt_of_le g1 I.2.2.1)).trans (I.2.2.2.1 q g1 g2)⟩⟩) I.2.2.2.2 hc hs
end HVC
section HVE
variable {l : Launch} {y : MethodName} {ws ws' : List Cond} {f lo mc ms : Nat} {G : hv_G} {h : hv} {sz : Nat} {avs : List Value} {cc : ByteArray} {maxL : Nat} {ret : Option FieldType} {own : String} {Qf : Nat → Array Value → State → Outcome → State → Prop}
theorem hv_enter (hy : plainFor y = true) (hw : ws = Cond.code y cc maxL ret :: ws') (hown : y.cls = own) (hlen : (lg_sl avs).length ≤ maxL)
    (body : ∀ (p : Program) (e : Env) (s : State) (m : MethodId) (below : List Frame) (meth : Method) (c : Code), meth.sig.returnType = ret → meth.name = y.name → hv_C p s m avs.toArray meth c own cc maxL ws G h → hv_I G h s h s.heap [] → ∀ ls : Array Slot, lv_has ls maxL (lv_args 0 avs) →
      W p l e (hv_rm f mc ms lo) s m avs.toArray below meth c s.heap [] 0 0 (MQ below (Qf s.heap.size) avs.toArray s mc ms (hv_A h s.heap.size)) (F0 m 0 ls [])) :
    Met l y ws (hv_rm f mc ms lo) (va_Pc avs (hv_B G h sz)) (Qf sz) mc ms (hv_A h sz) := by
  subst hown
  refine va_MetF (cc := cc) (maxL := maxL) (ret := ret) hy hw ?_
  intro p e s m args below meth c s₁ B hml hq
  obtain ⟨rfl, hsz, hP, hE⟩ := hq
  subst hsz
  rw [lg_entry_eq]
  exact body p e s m below meth c B.returns (name_of_methodNamed B.named B.method).1 ⟨B.exec, B.bytes, hml, findClass_of_methodNamed B.named, atoms_spec (ws := ws) B.pre, B.notSynchronized, hE⟩ ⟨hP, fun a ha => Or.inl ha, va_S.rf⟩ _ (lv_entry avs hlen)
theorem hv_enterX {XC : Nat → String → State → State → Prop} (hy : plainName y.cls = true) (hw : ws = Cond.code y cc maxL ret :: ws') (hown : y.cls = own) (hlen : (lg_sl avs).length ≤ maxL)
    (body : ∀ (p : Program) (e : Env) (s : State) (m : MethodId) (below : List Frame) (meth : Method) (c : Code), meth.sig.returnType = ret → (∀ x ∈ c.exceptionTable.toList, False) → hv_C p s m avs.toArray meth c own cc maxL ws G h → hv_I G h s h s.heap [] → ∀ ls : Array Slot, lv_has ls maxL (lv_args 0 avs) →
      W p l e (hv_rm f mc ms lo) s m avs.toArray below meth c s.heap [] 0 0 (vx_MQ below (Qf s.heap.size) (XC s.heap.size) avs.toArray s mc ms (hv_A h s.heap.size)) (F0 m 0 ls [])) :
    vx_Met l y ws (hv_rm f mc ms lo) (va_Pc avs (hv_B G h sz)) (Qf sz) (XC sz) mc ms (hv_A h sz) := by
  subst hown
  refine vx_ofW (cc := cc) (maxL := maxL) (ret := ret) hy hw ?_
  intro p e s m args below meth c s₁ B hml ht hq
  obtain ⟨rfl, hsz, hP, hE⟩ := hq
  subst hsz
  rw [lg_entry_eq]
  exact body p e s m below meth c B.returns ht ⟨B.exec, B.bytes, hml, findClass_of_methodNamed B.named, atoms_spec (ws := ws) B.pre, B.notSynchronized, hE⟩ ⟨hP, fun a ha => Or.inl ha, va_S.rf⟩ _ (lv_entry avs hlen)
end HVE
