/-! ===== the law: its world, its reads, the end of a case ===== -/
def h_0 : hv := fun _ => none
def lw_S (p : Program) (s : State) (m : MethodId) (meth : Method) (c : Code) (b L : Nat) (xs : Nat → Int32) (G : hv_G) : Prop :=
  hv_C p s m #[Value.ref b] meth c RL cL_law 7 wsL_law G h_0 ∧ meth.sig.returnType = ret ∧ va_X b L xs s s.heap ∧ b < s.heap.size
/-- both sides and the out array, apart, within one view of the heap -/
def lw_I (G : hv_G) (s : State) (x o oa : Nat) (md : Nat → Nat) (H : Heap) (locs : List Loc) : Prop :=
  ∃ (J hX hM : hv) (v : Int64) (th : Int32), hv_I G h_0 s J H locs ∧ hv_le (hv_j hX (hv_out G oa v)) J ∧ hv_le hM J ∧ hv_dis (hv_j hX (hv_out G oa v)) hM ∧ hv_dis hX (hv_out G oa v) ∧ LSt G x o md hX hM th
/-- the walk behind a case -/
def lw_K (p : Program) (l : Launch) (e : Env) (s : State) (m : MethodId) (below : List Frame) (meth : Method) (c : Code) (b : Nat) (G : hv_G) (x o oa : Nat) (md : Nat → Nat) (i : Int32) (k9 n9 : Nat) (Q : State → Prop) : Prop :=
  ∀ (H : Heap) (locs : List Loc) (ls : Array Slot), lw_I G s x o oa md H locs → lv_has ls 7 [(0, .ref b), (1, .ref x), (2, .ref o), (3, .ref oa), (4, .int i)] → W p l e room_1 s m #[Value.ref b] below meth c H locs k9 n9 Q (F0 m 1228 ls [])
theorem hv_le_l {a b J : hv} (h : hv_le (hv_j a b) J) : hv_le a J := fun x e hx => h x e (hv_j_l hx)
theorem lg_cmp_self (x : Int64) : lg_cmp x x = 0 := by simp [lg_cmp]
section LW
variable {p : Program} {l : Launch} {e : Env} {s : State} {m : MethodId} {below : List Frame} {meth : Method} {c : Code} {H : Heap} {locs : List Loc} {cells slots : Nat} {Q : State → Prop}
variable {pc b L : Nat} {xs : Nat → Int32} {ls : Array Slot} {rest : List Value} {G : hv_G} {J uX uM : hv}
theorem lw_ld (S : lw_S p s m meth c b L xs G) (I : hv_I G h_0 s J H locs) {i v : Int32} (hin : vp_in i L) (ev : xs i.toNatClampNeg = v) (hdg : decode cL_law pc = .ok (.iaload, 1))
    (kk : W p l e room_1 s m #[Value.ref b] below meth c H locs cells slots Q (F0 m (pc + 1) ls (.int v :: rest))) : W p l e room_1 s m #[Value.ref b] below meth c H locs cells slots Q (F0 m pc ls (.int i :: .ref b :: rest)) := by
  subst ev
  exact va_sld (A := hv_A h_0 s.heap.size) S.1.1 S.1.2.1 S.2.2.1 S.2.2.2 (fun z => z.elim (fun y => y rfl) (fun y => Nat.not_le.mpr S.2.2.2 y)) I.2.2 hin hdg kk
/-- script[i + n] -/
theorem lw_arg (S : lw_S p s m meth c b L xs G) (I : hv_I G h_0 s J H locs) {lv : List (Nat × Value)} (hl : lv_has ls 7 lv) (k0 k4 : Nat) {i w v : Int32} {n : Int} (h0 : lv[k0]? = some (0, .ref b)) (h4 : lv[k4]? = some (4, .int i)) (hw : Int32.ofInt n = w) (hin : vp_in (i + w) L) (ev : xs (i + w).toNatClampNeg = v)
    (d0 : decode cL_law pc = .ok (.aload_n 0, 1)) (d1 : decode cL_law (pc + 1) = .ok (.iload 4, 2)) (d3 : decode cL_law (pc + 3) = .ok (.iconst n, 1)) (d4 : decode cL_law (pc + 4) = .ok (.iadd, 1)) (d5 : decode cL_law (pc + 5) = .ok (.iaload, 1))
    (kk : W p l e room_1 s m #[Value.ref b] below meth c H locs cells slots Q (F0 m (pc + 6) ls (.int v :: rest))) : W p l e room_1 s m #[Value.ref b] below meth c H locs cells slots Q (F0 m pc ls rest) := by
  refine lv_aload_n S.1.1 S.1.2.1 d0 rfl (lv_at hl k0 h0) ?_
  refine lv_iload S.1.1 S.1.2.1 d1 (lv_at hl k4 h4) ?_
  refine lv_iconst (v := w) S.1.1 S.1.2.1 d3 hw ?_
  refine lv_iadd S.1.1 S.1.2.1 d4 ?_
  exact lw_ld S I hin ev d5 kk
/-- out[0] -/
theorem lw_out (S : lw_S p s m meth c b L xs G) (I : hv_I G h_0 s J H locs) {oa : Nat} {v : Int64} (dX : hv_dis uX (hv_out G oa v)) (leX : hv_le (hv_j uX (hv_out G oa v)) J) (hdg : decode cL_law pc = .ok (.laload, 1))
    (kk : W p l e room_1 s m #[Value.ref b] below meth c H locs cells slots Q (F0 m (pc + 1) ls (.long v :: rest))) : W p l e room_1 s m #[Value.ref b] below meth c H locs cells slots Q (F0 m pc ls (.int 0 :: .ref oa :: rest)) :=
  hv_lald S.1 I (leX oa _ (hv_j_b dX (hv_out_eq G oa v))) (i := 0) (show vp_in (nI 0) 1 from vp_in_nI (by decide) (by decide)) hdg kk
section TAIL
variable {x o oa : Nat} {md : Nat → Nat} {i r bb : Int32} {v : Int64} {k9 n9 : Nat} {off : Int}
/-- m.thrown() -/
theorem lw_thr (S : lw_S p s m meth c b L xs G) (I : hv_I G h_0 s J H locs) (leX : hv_le (hv_j uX (hv_out G oa v)) J) (leM : hv_le uM J) (dM : hv_dis (hv_j uX (hv_out G oa v)) uM) (LS : LSt G x o md uX uM r) {lv : List (Nat × Value)} (hl : lv_has ls 7 lv) (k2 : Nat) (h2 : lv[k2]? = some (2, .ref o)) (hc : cells ≤ 601024) (hs : slots ≤ 7293034)
    (d0 : decode cL_law pc = .ok (.aload_n 2, 1)) (d1 : decode cL_law (pc + 1) = .ok (.invokevirtual 77, 3))
    (kk : ∀ (J : hv) (H : Heap) (locs : List Loc), hv_I G h_0 s J H locs → hv_le (hv_j uX (hv_out G oa v)) J → hv_le uM J → W p l e room_1 s m #[Value.ref b] below meth c H locs cells slots Q (F0 m (pc + 4) ls [.int r])) : W p l e room_1 s m #[Value.ref b] below meth c H locs cells slots Q (F0 m pc ls []) := by
  obtain ⟨ad, n, d, dy, rf, ar, fm, po, -, -, hM, -⟩ := LS
  refine lv_aload_n S.1.1 S.1.2.1 d0 rfl (lv_at hl k2 h2) ?_
  refine hv_ski I leM (va_runV (As := []) (rest := []) S.1.fix (c_X5_thrown l G uM _ hM) (cwV 0 S.1.2.2.2.2.1 gL_law_X5_thrown rfl rfl rfl (by decide +kernel) ⟨Nat.le_of_ble_eq_true rfl, Nat.le_of_ble_eq_true rfl⟩) (hv_preV S.1 (I.sub leM) hM.1 (r := (RX5, TX5, 21)) rfl) rfl rfl hl.1 rfl (lv_room (Nat.le_of_ble_eq_true rfl)) d1 ⟨hc, hs⟩) (fun r2 u J2 H locs hp hf I => ?_)
  obtain ⟨e1, e2⟩ := hp
  have e1 := e1.symm
  have e2 := e2.symm
  subst e1
  subst e2
  exact kk J2 H locs I (hf.2 _ leX (hv_dis_symm dM)).1 hf.1
/-- the comparisons behind a call that answers an int -/
theorem lw_tail (S : lw_S p s m meth c b L xs G) (I : hv_I G h_0 s J H locs) (leX : hv_le (hv_j uX (hv_out G oa v)) J) (leM : hv_le uM J) (dM : hv_dis (hv_j uX (hv_out G oa v)) uM) (dX : hv_dis uX (hv_out G oa v)) (LS : LSt G x o md uX uM r) (ev : r = 0 → v = bb.toInt64)
    (hl : lv_has ls 7 [(6, .int bb), (5, .int r), (0, .ref b), (1, .ref x), (2, .ref o), (3, .ref oa), (4, .int i)]) (hc : cells ≤ k9) (hs : slots ≤ n9) (hc9 : k9 ≤ 601024) (hs9 : n9 ≤ 7293034) (ht : ((pc + 28 : Nat) : Int) + off = (1228 : Nat))
    (d0 : decode cL_law pc = .ok (.aload_n 2, 1)) (d1 : decode cL_law (pc + 1) = .ok (.invokevirtual 77, 3)) (d4 : decode cL_law (pc + 4) = .ok (.iload 5, 2)) (d6 : decode cL_law (pc + 6) = .ok (.if_icmp .eq 5, 3)) (d11 : decode cL_law (pc + 11) = .ok (.iload 5, 2)) (d13 : decode cL_law (pc + 13) = .ok (.ifCond .ne 15, 3))
    (d16 : decode cL_law (pc + 16) = .ok (.aload_n 3, 1)) (d17 : decode cL_law (pc + 17) = .ok (.iconst 0, 1)) (d18 : decode cL_law (pc + 18) = .ok (.laload, 1)) (d19 : decode cL_law (pc + 19) = .ok (.iload 6, 2)) (d21 : decode cL_law (pc + 21) = .ok (.i2l, 1)) (d22 : decode cL_law (pc + 22) = .ok (.lcmp, 1)) (d23 : decode cL_law (pc + 23) = .ok (.ifCond .eq 5, 3)) (d28 : decode cL_law (pc + 28) = .ok (.goto off, 3))
    (K : lw_K p l e s m below meth c b G x o oa md i k9 n9 Q) : W p l e room_1 s m #[Value.ref b] below meth c H locs cells slots Q (F0 m pc ls []) := by
  refine lw_thr S I leX leM dM LS hl 4 rfl (Nat.le_trans hc hc9) (Nat.le_trans hs hs9) d0 d1 (fun J H locs I leX leM => ?_)
  refine lv_iload S.1.1 S.1.2.1 d4 (lv_at hl 1 rfl) ?_
  refine lv_icmp_eq (tgt := pc + 11) S.1.1 S.1.2.1 d6 (by omega) (fun _ => ?_) (fun z => absurd rfl z)
  have fin : W p l e room_1 s m #[Value.ref b] below meth c H locs cells slots Q (F0 m (pc + 28) ls []) := by
    refine lv_goto (tgt := 1228) S.1.1 S.1.2.1 d28 ht ?_
    exact W.widen hc hs (K H locs ls ⟨J, uX, uM, v, r, I, leX, leM, dM, dX, LS⟩ (lv_sub hl [2, 3, 4, 5, 6] rfl))
  refine lv_iload S.1.1 S.1.2.1 d11 (lv_at hl 1 rfl) ?_
  refine lv_if_ne (tgt := pc + 28) S.1.1 S.1.2.1 d13 (by omega) (fun _ => fin) (fun z => ?_)
  have ev := ev z
  refine lv_aload_n S.1.1 S.1.2.1 d16 rfl (lv_at hl 5 rfl) ?_
  refine lv_iconst (v := 0) S.1.1 S.1.2.1 d17 (by decide) ?_
  refine lw_out S I dX leX d18 ?_
  refine lv_iload S.1.1 S.1.2.1 d19 (lv_at hl 0 rfl) ?_
  refine lv_i2l S.1.1 S.1.2.1 d21 rfl ?_
  refine W.lcmp S.1.1 S.1.2.1 d22 ?_
  refine lv_if_eq (tgt := pc + 28) S.1.1 S.1.2.1 d23 (by omega) (fun _ => fin) (fun z => absurd (by rw [ev]; exact lg_cmp_self _) z)
/-- .. a boolean -/
theorem lw_tailB (S : lw_S p s m meth c b L xs G) (I : hv_I G h_0 s J H locs) (leX : hv_le (hv_j uX (hv_out G oa v)) J) (leM : hv_le uM J) (dM : hv_dis (hv_j uX (hv_out G oa v)) uM) (dX : hv_dis uX (hv_out G oa v)) (LS : LSt G x o md uX uM r) (ev : r = 0 → v = if bb = 0 then 0 else 1)
    (hl : lv_has ls 7 [(6, .int bb), (5, .int r), (0, .ref b), (1, .ref x), (2, .ref o), (3, .ref oa), (4, .int i)]) (hc : cells ≤ k9) (hs : slots ≤ n9) (hc9 : k9 ≤ 601024) (hs9 : n9 ≤ 7293034) (ht : ((pc + 35 : Nat) : Int) + off = (1228 : Nat))
    (d0 : decode cL_law pc = .ok (.aload_n 2, 1)) (d1 : decode cL_law (pc + 1) = .ok (.invokevirtual 77, 3)) (d4 : decode cL_law (pc + 4) = .ok (.iload 5, 2)) (d6 : decode cL_law (pc + 6) = .ok (.if_icmp .eq 5, 3)) (d11 : decode cL_law (pc + 11) = .ok (.iload 5, 2)) (d13 : decode cL_law (pc + 13) = .ok (.ifCond .ne 22, 3))
    (d16 : decode cL_law (pc + 16) = .ok (.aload_n 3, 1)) (d17 : decode cL_law (pc + 17) = .ok (.iconst 0, 1)) (d18 : decode cL_law (pc + 18) = .ok (.laload, 1)) (d19 : decode cL_law (pc + 19) = .ok (.iload 6, 2)) (d21 : decode cL_law (pc + 21) = .ok (.ifCond .eq 7, 3)) (d24 : decode cL_law (pc + 24) = .ok (.lconst 1, 1)) (d25 : decode cL_law (pc + 25) = .ok (.goto 4, 3)) (d28 : decode cL_law (pc + 28) = .ok (.lconst 0, 1)) (d29 : decode cL_law (pc + 29) = .ok (.lcmp, 1)) (d30 : decode cL_law (pc + 30) = .ok (.ifCond .eq 5, 3)) (d35 : decode cL_law (pc + 35) = .ok (.goto off, 3))
    (K : lw_K p l e s m below meth c b G x o oa md i k9 n9 Q) : W p l e room_1 s m #[Value.ref b] below meth c H locs cells slots Q (F0 m pc ls []) := by
  refine lw_thr S I leX leM dM LS hl 4 rfl (Nat.le_trans hc hc9) (Nat.le_trans hs hs9) d0 d1 (fun J H locs I leX leM => ?_)
  refine lv_iload S.1.1 S.1.2.1 d4 (lv_at hl 1 rfl) ?_
  refine lv_icmp_eq (tgt := pc + 11) S.1.1 S.1.2.1 d6 (by omega) (fun _ => ?_) (fun z => absurd rfl z)
  have fin : W p l e room_1 s m #[Value.ref b] below meth c H locs cells slots Q (F0 m (pc + 35) ls []) := by
    refine lv_goto (tgt := 1228) S.1.1 S.1.2.1 d35 ht ?_
    exact W.widen hc hs (K H locs ls ⟨J, uX, uM, v, r, I, leX, leM, dM, dX, LS⟩ (lv_sub hl [2, 3, 4, 5, 6] rfl))
  refine lv_iload S.1.1 S.1.2.1 d11 (lv_at hl 1 rfl) ?_
  refine lv_if_ne (tgt := pc + 35) S.1.1 S.1.2.1 d13 (by omega) (fun _ => fin) (fun z => ?_)
  have ev := ev z
  refine lv_aload_n S.1.1 S.1.2.1 d16 rfl (lv_at hl 5 rfl) ?_
  refine lv_iconst (v := 0) S.1.1 S.1.2.1 d17 (by decide) ?_
  refine lw_out S I dX leX d18 ?_
  have cmp : ∀ w : Int64, w = v → W p l e room_1 s m #[Value.ref b] below meth c H locs cells slots Q (F0 m (pc + 29) ls [.long w, .long v]) := fun w hw => by
    refine W.lcmp S.1.1 S.1.2.1 d29 ?_
    refine lv_if_eq (tgt := pc + 35) S.1.1 S.1.2.1 d30 (by omega) (fun _ => fin) (fun z => absurd (by rw [hw]; exact lg_cmp_self _) z)
  refine lv_iload S.1.1 S.1.2.1 d19 (lv_at hl 0 rfl) ?_
  refine lv_if_eq (tgt := pc + 28) S.1.1 S.1.2.1 d21 (by omega) (fun c0 => ?_) (fun c0 => ?_)
  · refine lv_lconst (v := 0) S.1.1 S.1.2.1 d28 (by decide) ?_
    exact cmp 0 (by rw [ev, if_pos c0])
  · refine lv_lconst (v := 1) S.1.1 S.1.2.1 d24 (by decide) ?_
    refine lv_goto (tgt := pc + 29) S.1.1 S.1.2.1 d25 (by omega) ?_
    exact cmp 1 (by rw [ev, if_neg c0])
end TAIL
end LW
