/-! ===== a desk of the law: the script, a new desk, sixty steps ===== -/
theorem isD_arI {G : hv_G} {h : hv} {ad : Nat → Nat → Nat} {fm : Nat → Int32} {po : Nat → List (Int32 × Int32 × Int32)} (hD : isD G h ad 0 0 0 0 0 (va_up (va_up (fun _ _ => 0) 1 (filC 30 6)) 2 (filC 30 6)) fm po) : isD G h ad 0 0 0 0 0 arI fm po := by
  refine ⟨fun k i hl => ?_, hD.2⟩
  have z := hD.1 k i hl
  rw [z]
  match k, hl with
  | 0, _ => rfl
  | 1, _ => rfl
  | 2, _ => rfl
  | 3, hl => exact hl.elim (fun z => absurd rfl z.2) (fun z => absurd rfl z.2)
  | 4, hl => exact absurd hl (Nat.not_lt_zero _)
  | 5, hl => exact absurd hl (Nat.not_lt_zero _)
  | 6, hl => exact absurd hl (Nat.not_lt_zero _)
  | 7, hl => exact absurd hl (Nat.not_lt_zero _)
  | 8, hl => exact absurd hl.1 (Nat.not_lt_zero _)
  | 9, hl => exact absurd hl.1.1 (Nat.not_lt_zero _)
  | 10, hl => exact absurd hl.1 (Nat.not_lt_zero _)
  | 11, hl => exact absurd hl.1.1 (Nat.not_lt_zero _)
  | (x + 12), hl => exact hl.elim
theorem le_none {a J : hv} {x : Nat} (h : hv_le a J) (hn : J x = none) : a x = none := by
  cases hx : a x with
  | none => rfl
  | some e => rw [h x e hx] at hn; cases hn
theorem Nm_init : Nm 0 0 0 arI (fun _ => []) 0 (fun _ => 0) (filC 30 12) (fun _ => 0) (fun _ => 0) (fun _ => 0) (fun _ => 0) (fun _ => 0) (fun _ => 0) (fun _ => 0) (fun _ => 0) (fun _ => 30) (fun _ => 30) := by
  refine ⟨⟨Nat.zero_le _, Nat.zero_le _, Nat.zero_le _⟩, ⟨rfl, rfl, rfl, rfl⟩, fun k hk => absurd hk (Nat.not_lt_zero k), Nat.zero_le _, fun k hk => ⟨⟨?_, ?_, Nat.le_refl _⟩, ⟨?_, ?_, Nat.le_refl _⟩⟩, fun k _ hk => ⟨rfl, ?_, ?_⟩, fun i j _ _ => ⟨0, Nat.zero_le _, rfl, fun _ => rfl⟩, fun m _ _ => rfl, fun m => Nat.zero_le _, fun D hD => absurd hD (Nat.not_lt_zero D), fun D j hD => absurd hD (Nat.not_lt_zero D)⟩
  · show filC 30 6 k = nI 30
    exact if_pos hk
  · show filC 30 12 (2 * k) = nI 30
    exact if_pos (by omega)
  · show filC 30 6 k = nI 30
    exact if_pos hk
  · show filC 30 12 (2 * k + 1) = nI 30
    exact if_pos (by omega)
  · show filC (-1) 20 k = -1
    exact if_pos hk
  · show filC (-1) 20 k = -1
    exact if_pos hk
theorem inv_z {G : hv_G} {aa : Nat → Nat} {o : Nat} {J : hv} (h : Inv G aa o J) : ∃ zF : Nat → Int64, J (aa 4) = some (.inl (G.2.1 4, 1, .inr (.inl zF))) := by
  obtain ⟨n, d, t, hF, tF, pF, cF, zF, kd, ld, sh, fo, si, g, la, ad, rf, ar, fm, po, eo, hD, hL, hN⟩ := h
  exact ⟨zF, hL.2.2.2.2⟩
theorem s_step (l : Launch) (hlt : l.stackTraces = false) (G : hv_G) (h : hv) (sz : Nat) {aa : Nat → Nat} {o w x y : Nat} (hI : Inv G aa o h) (hw : w < 20) (hx : x < 2 ^ 30) (hy : y < 2 ^ 30) : hv_Mi l yL_step wsL_step 15 560 750 3500 G h sz [.ref o, .int (nI w), .int (nI x), .int (nI y), .ref (aa 0), .ref (aa 1), .ref (aa 2), .ref (aa 3), .ref (aa 4)] (fun r u => r = 1 ∧ Inv G aa o u) := by
  obtain ⟨n, d, t, hF, tF, pF, cF, zF, kd, ld, sh, fo, si, g, la, ad, rf, ar, fm, po, eo, hD, hL, hN⟩ := hI
  subst eo
  exact c_L_step l G h sz hlt hD hL hN hw hx hy
theorem s_isDesk (l : Launch) (hlt : l.stackTraces = false) (G : hv_G) (h : hv) (sz : Nat) {aa : Nat → Nat} {o : Nat} {zF : Nat → Int64} (hI : Inv G aa o h) (fZ : h (aa 4) = some (.inl (G.2.1 4, 1, .inr (.inl zF)))) : hv_Mi l yL_isDesk wsL_isDesk 11 400 1600 9600 G h sz [.ref o, .ref (aa 0), .ref (aa 1), .ref (aa 3), .long (zF 0)] (fun r u => u = h ∧ r = 1) := by
  obtain ⟨n, d, t, hF, tF, pF, cF, zF2, kd, ld, sh, fo, si, g, la, ad, rf, ar, fm, po, eo, hD, hL, hN⟩ := hI
  subst eo
  have e := fZ.symm.trans hL.2.2.2.2
  have e2 : zF = zF2 := by
    have e3 := Sum.inl.inj (Option.some.inj e)
    have e4 := congrArg (fun z => z.2.2) e3
    exact Sum.inl.inj (Sum.inr.inj e4)
  subst e2
  have ez := hN.2.1.2.2.2
  rw [ez]
  exact c_L_isDesk l G h sz hlt hD hL hN
abbrev hv_Bs (G : hv_G) (h : hv) (sz b L : Nat) (xs : Nat → Int32) (U : State) : Prop := hv_B G h sz U ∧ va_X b L xs U U.heap
theorem hv_blindS {G : hv_G} {h : hv} {sz b L : Nat} {xs : Nat → Int32} {avs : List Value} : FrameBlind (va_Pc avs (hv_Bs G h sz b L xs)) := by
  intro a U g mk q
  obtain ⟨q0, q1, q2⟩ := q
  exact ⟨q0, (hv_blind (avs := avs) a U g mk ⟨q0, q1⟩).2, va_X.moved (u := U) (U := U.calling g mk a) ((State.WarmedH.refl U).alike) q2⟩
section DSK
variable {p : Program} {l : Launch} {e : Env} {R : Room} {s : State} {m : MethodId} {args : Array Value} {below : List Frame} {meth : Method} {c : Code} {H : Heap} {locs : List Loc} {cells slots : Nat} {Q : State → Prop}
variable {cc : ByteArray} {G : hv_G} {h h0 : hv} {own : String} {nL : Nat} {Ts : List Cond} {b L : Nat} {xs : Nat → Int32}
theorem hv_bA (hb : b < s.heap.size) (hn : h0 b = none) : ¬ hv_A h0 s.heap.size b := fun z => z.elim (fun y => y hn) (fun y => by omega)
theorem hv_bn (C : hv_C p s m args meth c own cc nL Ts G h0) (I : hv_I G h0 s h H locs) (hb : b < s.heap.size) (hn : h0 b = none) : h b = none := by
  cases hx : h b with
  | none => rfl
  | some e => exact absurd (I.2.1 b (hv_nn hx)) (hv_bA hb hn)
theorem hv_preSs (C : hv_C p s m args meth c own cc nL Ts G h0) (I : hv_I G h0 s h H locs) (hX : va_X b L xs s s.heap) (hb : b < s.heap.size) (hn : h0 b = none) {As : List Value} : PreS s H (va_Pc As (hv_Bs G h H.size b L xs)) As := by
  refine ⟨hv_blindS, fun U hU hW => ⟨rfl, hv_pre C I hU hW, ?_⟩⟩
  rw [hU]
  exact (hX.kept (I.2.2.2.1 b hb (hv_bA hb hn))).moved hW.alike
end DSK
theorem hv_enterS {l : Launch} {y : MethodName} {ws ws' : List Cond} {f lo mc ms : Nat} {G : hv_G} {h : hv} {sz b L : Nat} {xs : Nat → Int32} {avs : List Value} {cc : ByteArray} {maxL : Nat} {ret : Option FieldType} {own : String} {Qf : Nat → Array Value → State → Outcome → State → Prop} (hy : plainFor y = true) (hw : ws = Cond.code y cc maxL ret :: ws') (hown : y.cls = own) (hlen : (lg_sl avs).length ≤ maxL)
    (body : ∀ (p : Program) (e : Env) (s : State) (m : MethodId) (below : List Frame) (meth : Method) (c : Code), meth.sig.returnType = ret → hv_C p s m avs.toArray meth c own cc maxL ws G h → hv_I G h s h s.heap [] → va_X b L xs s s.heap → s.heap.size = sz → ∀ ls : Array Slot, lv_has ls maxL (lv_args 0 avs) →
      W p l e (hv_rm f mc ms lo) s m avs.toArray below meth c s.heap [] 0 0 (MQ below (Qf s.heap.size) avs.toArray s mc ms (hv_A h s.heap.size)) (F0 m 0 ls [])) :
    Met l y ws (hv_rm f mc ms lo) (va_Pc avs (hv_Bs G h sz b L xs)) (Qf sz) mc ms (hv_A h sz) := by
  subst hown
  refine va_MetF (cc := cc) (maxL := maxL) (ret := ret) hy hw ?_
  intro p e s m args below meth c s₁ B hml hq
  obtain ⟨rfl, ⟨hsz, hP, hE⟩, hX⟩ := hq
  subst hsz
  rw [lg_entry_eq]
  exact body p e s m below meth c B.returns ⟨B.exec, B.bytes, hml, findClass_of_methodNamed B.named, atoms_spec (ws := ws) B.pre, B.notSynchronized, hE⟩ ⟨hP, fun a ha => Or.inl ha, va_S.rf⟩ hX rfl _ (lv_entry avs hlen)
set_option maxHeartbeats 4000000 in
set_option maxRecDepth 100000 in
/-- a number drawn: below what is asked -/
theorem c_L_draw (l : Launch) (G : hv_G) (h : hv) (sz : Nat) {b L : Nat} {xs : Nat → Int32} (hb1 : b < sz) (hb2 : h b = none) (hL : L ≤ 260) {k most : Nat} (hk : k < 2 ^ 30) (hm0 : 0 < most) (hm : most < 2 ^ 31) : Met l yL_draw wsL_draw (hv_rm 0 0 0 0) (va_Pc [.ref b, .int (nI k), .int (nI most)] (hv_Bs G h sz b L xs)) (va_Qi (fun r u => u = h ∧ ∃ j, j < most ∧ r = nI j) (hv_Bq G h sz) (hv_A h sz)) 0 0 (hv_A h sz) := by
  refine hv_enterS (y := yL_draw) (avs := [.ref b, .int (nI k), .int (nI most)]) (maxL := 4) (Qf := fun sz => va_Qi (fun r u => u = h ∧ ∃ j, j < most ∧ r = nI j) (hv_Bq G h sz) (hv_A h sz)) (by decide) rfl rfl (Nat.le_of_ble_eq_true rfl) ?_
  intro p e s m below meth c hr C I hX hsz ls hl
  subst hsz
  have hbA : ¬ hv_A h s.heap.size b := hv_bA hb1 hb2
  have hl : lv_has ls 4 [(0, .ref b), (1, .int (nI k)), (2, .int (nI most))] := hl
  have J : ∀ v : Int32, W p l e (hv_rm 0 0 0 0) s m ([.ref b, .int (nI k), .int (nI most)] : List Value).toArray below meth c s.heap [] 0 0 (MQ below (va_Qi (fun r u => u = h ∧ ∃ j, j < most ∧ r = nI j) (hv_Bq G h s.heap.size) (hv_A h s.heap.size)) ([.ref b, .int (nI k), .int (nI most)] : List Value).toArray s 0 0 (hv_A h s.heap.size)) (F0 m 23 ls [.int v]) := by
    intro v
    refine lv_istore_n (lv' := [(3, .int v), (0, .ref b), (1, .int (nI k)), (2, .int (nI most))]) C.1 C.2.1 dL_draw_23 rfl hl (by decide) rfl (fun ls hl => ?_)
    refine lv_iload_n C.1 C.2.1 dL_draw_24 rfl (lv_at hl 0 rfl) ?_
    refine lv_ldc C.1 C.2.1 C.2.2.2.1 (C.ts (w := .constant RL 9 (2147483647)) (by decide +kernel)) dL_draw_25 ?_
    refine lv_iand C.1 C.2.1 dL_draw_27 ?_
    obtain ⟨j, hj, ej⟩ := pk_andE v (m := 2147483647) 31 (by decide)
    refine lv_topi (fun z ez => ?_)
    have ez := ez.trans ej
    subst ez
    refine lv_iload_n C.1 C.2.1 dL_draw_28 rfl (lv_at hl 3 rfl) ?_
    refine lv_irem C.1 C.2.1 dL_draw_29 (nI_ne0 hm0 hm) ?_
    refine lv_topi (fun z ez => ?_)
    have ez := ez.trans (pk_rem (a := j) (d := most) hj hm0 hm)
    subst ez
    exact hv_iret (v := nI (j % most)) C hr I ⟨rfl, j % most, Nat.mod_lt _ hm0, rfl⟩ dL_draw_30 (Nat.le_of_ble_eq_true rfl) (Nat.le_of_ble_eq_true rfl)
  refine lv_iload_n C.1 C.2.1 dL_draw_0 rfl (lv_at hl 1 rfl) ?_
  refine lv_aload_n C.1 C.2.1 dL_draw_1 rfl (lv_at hl 0 rfl) ?_
  refine va_slen (A := hv_A h s.heap.size) C.1 C.2.1 hX hb1 hbA I.2.2 dL_draw_2 ?_
  refine lv_icmp_ge (tgt := 12) C.1 C.2.1 dL_draw_3 (by decide) (fun c3 => ?_) (fun c3 => ?_)
  · refine lv_ldc C.1 C.2.1 C.2.2.2.1 (C.ts (w := .constant RL 7 (1020782009)) (by decide +kernel)) dL_draw_12 ?_
    refine lv_iload_n C.1 C.2.1 dL_draw_14 rfl (lv_at hl 1 rfl) ?_
    refine lv_sipush (v := 181) C.1 C.2.1 dL_draw_15 (by decide) ?_
    refine lv_iadd C.1 C.2.1 dL_draw_18 ?_
    refine lv_imul C.1 C.2.1 dL_draw_19 ?_
    refine lv_ldc C.1 C.2.1 C.2.2.2.1 (C.ts (w := .constant RL 8 (1306763767)) (by decide +kernel)) dL_draw_20 ?_
    refine lv_iadd C.1 C.2.1 dL_draw_22 ?_
    exact J _
  · have c3 : k < L := Nat.lt_of_not_le (fun z => c3 (nI_le (a := L) z (by omega)))
    refine lv_aload_n C.1 C.2.1 dL_draw_6 rfl (lv_at hl 0 rfl) ?_
    refine lv_iload_n C.1 C.2.1 dL_draw_7 rfl (lv_at hl 1 rfl) ?_
    refine va_sld (A := hv_A h s.heap.size) C.1 C.2.1 hX hb1 hbA I.2.2 (vp_in_nI c3 (by omega)) dL_draw_8 ?_
    refine lv_goto (tgt := 23) C.1 C.2.1 dL_draw_9 (by decide) ?_
    exact J _

set_option maxHeartbeats 8000000 in
set_option maxRecDepth 100000 in
theorem c_L_desk (l : Launch) (hlt : l.stackTraces = false) (G : hv_G) (h : hv) (hh : h = h_0) (sz : Nat) {b L : Nat} {xs : Nat → Int32} (hb1 : b < sz) (hL : L ≤ 260) {k0 : Nat} (hk0 : k0 ≤ 370) : Met l yL_desk wsL_desk (hv_rm 16 141100 786200 640) (va_Pc [.ref b, .int (nI k0)] (hv_Bs G h sz b L xs)) (va_Qi (fun r u => u = h ∧ r = 1) (hv_Bq G h sz) (hv_A h sz)) 141100 786200 (hv_A h sz) := by
  have hb2 : h b = none := by rw [hh]; rfl
  have wX4 : ∀ w ∈ wsX40, w ∈ wsL_desk := by decide +kernel
  refine hv_enterS (y := yL_desk) (avs := [.ref b, .int (nI k0)]) (maxL := 12) (Qf := fun sz => va_Qi (fun r u => u = h ∧ r = 1) (hv_Bq G h sz) (hv_A h sz)) (by decide) rfl rfl (Nat.le_of_ble_eq_true rfl) ?_
  intro p e s m below meth c hr C I hX hsz ls hl
  subst hsz
  have hl : lv_has ls 12 [(0, .ref b), (1, .int (nI k0))] := hl
  refine hv_new (ci := 5) (fs := [.null, .null, .null, .null, .int 0, .long 0]) (Cn := RX4) (T := TX4) (N := 6) C I wX4 tyX4 tyX4_ok (by decide +kernel) (by decide +kernel) (by decide +kernel) rfl (fun j hj => by rcases (show j = 0 ∨ j = 1 ∨ j = 2 ∨ j = 3 ∨ j = 4 ∨ j = 5 by omega) with rfl | rfl | rfl | rfl | rfl | rfl <;> rfl) (Nat.le_of_ble_eq_true rfl) (Nat.le_of_ble_eq_true rfl) dL_desk_0 (fun q H e1 I => ?_)
  refine lv_dup C.1 C.2.1 dL_desk_3 rfl ?_
  refine hv_kv I (va_runI (As := []) (rest := [.ref q]) C.fix (c_X4_init l G _ _ hv_up_eq) (cwI 0 C.2.2.2.2.1 gL_desk_X4_init rfl rfl rfl (C.ts (by decide +kernel)) (C.ts (w := .methodLink RL 133 yX4_init) (by decide +kernel)) (C.ts (by decide +kernel)) rfl (by decide +kernel) ⟨Nat.le_of_ble_eq_true rfl, Nat.le_of_ble_eq_true rfl⟩) (hv_preS C I) rfl rfl hl.1 rfl (lv_room (Nat.le_of_ble_eq_true rfl)) dL_desk_4 ⟨Nat.le_of_ble_eq_true rfl, Nat.le_of_ble_eq_true rfl⟩) (fun u H locs hp I => ?_)
  obtain ⟨ad, ea, hD⟩ := hp
  have hD := isD_arI hD
  refine lv_astore_n (lv' := [(2, .ref q), (0, .ref b), (1, .int (nI k0))]) C.1 C.2.1 dL_desk_7 rfl hl (by decide) rfl (fun ls hl => ?_)
  refine lv_bipush (v := 20) C.1 C.2.1 dL_desk_8 (by decide) ?_
  refine hv_newL C I (by decide +kernel) (N := 20) (by decide) (by decide) (Nat.le_of_ble_eq_true rfl) (Nat.le_of_ble_eq_true rfl) (Nat.le_of_ble_eq_true rfl) dL_desk_10 (fun q3 H nq3 I => ?_)
  obtain ⟨v_q3, e_v_q3⟩ : ∃ z, z = hv_up u q3 (.inl (G.2.1 4, 20, .inr (.inl (fun _ => 0)))) := ⟨_, rfl⟩
  rw [← e_v_q3] at I
  have le_q3 : hv_le u v_q3 := fun y e hy => by rw [e_v_q3, hv_up_ne (hv_neN hy nq3)]; exact hy
  have fq3 : v_q3 q3 = some (.inl (G.2.1 4, 20, .inr (.inl (fun _ => 0)))) := by rw [e_v_q3]; exact hv_up_eq
  refine lv_astore_n (lv' := [(3, .ref q3), (2, .ref q), (0, .ref b), (1, .int (nI k0))]) C.1 C.2.1 dL_desk_12 rfl hl (by decide) rfl (fun ls hl => ?_)
  refine lv_bipush (v := 12) C.1 C.2.1 dL_desk_13 (by decide) ?_
  refine hv_newI C I (by decide +kernel) (N := 12) (by decide) (by decide) (Nat.le_of_ble_eq_true rfl) (Nat.le_of_ble_eq_true rfl) (Nat.le_of_ble_eq_true rfl) dL_desk_15 (fun q4 H nq4 I => ?_)
  obtain ⟨v_q4, e_v_q4⟩ : ∃ z, z = hv_up v_q3 q4 (.inl (G.2.1 0, 12, .inl (fun _ => 0))) := ⟨_, rfl⟩
  rw [← e_v_q4] at I
  have le_q4 : hv_le v_q3 v_q4 := fun y e hy => by rw [e_v_q4, hv_up_ne (hv_neN hy nq4)]; exact hy
  have fq3 := le_q4 _ _ fq3
  have fq4 : v_q4 q4 = some (.inl (G.2.1 0, 12, .inl (fun _ => 0))) := by rw [e_v_q4]; exact hv_up_eq
  refine lv_astore (lv' := [(4, .ref q4), (3, .ref q3), (2, .ref q), (0, .ref b), (1, .int (nI k0))]) C.1 C.2.1 dL_desk_17 hl (by decide) rfl (fun ls hl => ?_)
  refine lv_bipush (v := 13) C.1 C.2.1 dL_desk_19 (by decide) ?_
  refine hv_newI C I (by decide +kernel) (N := 13) (by decide) (by decide) (Nat.le_of_ble_eq_true rfl) (Nat.le_of_ble_eq_true rfl) (Nat.le_of_ble_eq_true rfl) dL_desk_21 (fun q5 H nq5 I => ?_)
  obtain ⟨v_q5, e_v_q5⟩ : ∃ z, z = hv_up v_q4 q5 (.inl (G.2.1 0, 13, .inl (fun _ => 0))) := ⟨_, rfl⟩
  rw [← e_v_q5] at I
  have le_q5 : hv_le v_q4 v_q5 := fun y e hy => by rw [e_v_q5, hv_up_ne (hv_neN hy nq5)]; exact hy
  have fq3 := le_q5 _ _ fq3
  have fq4 := le_q5 _ _ fq4
  have fq5 : v_q5 q5 = some (.inl (G.2.1 0, 13, .inl (fun _ => 0))) := by rw [e_v_q5]; exact hv_up_eq
  refine lv_astore (lv' := [(5, .ref q5), (4, .ref q4), (3, .ref q3), (2, .ref q), (0, .ref b), (1, .int (nI k0))]) C.1 C.2.1 dL_desk_23 hl (by decide) rfl (fun ls hl => ?_)
  refine lv_iconst (v := 3) C.1 C.2.1 dL_desk_25 (by decide) ?_
  refine hv_newI C I (by decide +kernel) (N := 3) (by decide) (by decide) (Nat.le_of_ble_eq_true rfl) (Nat.le_of_ble_eq_true rfl) (Nat.le_of_ble_eq_true rfl) dL_desk_26 (fun q6 H nq6 I => ?_)
  obtain ⟨v_q6, e_v_q6⟩ : ∃ z, z = hv_up v_q5 q6 (.inl (G.2.1 0, 3, .inl (fun _ => 0))) := ⟨_, rfl⟩
  rw [← e_v_q6] at I
  have le_q6 : hv_le v_q5 v_q6 := fun y e hy => by rw [e_v_q6, hv_up_ne (hv_neN hy nq6)]; exact hy
  have fq3 := le_q6 _ _ fq3
  have fq4 := le_q6 _ _ fq4
  have fq5 := le_q6 _ _ fq5
  have fq6 : v_q6 q6 = some (.inl (G.2.1 0, 3, .inl (fun _ => 0))) := by rw [e_v_q6]; exact hv_up_eq
  refine lv_astore (lv' := [(6, .ref q6), (5, .ref q5), (4, .ref q4), (3, .ref q3), (2, .ref q), (0, .ref b), (1, .int (nI k0))]) C.1 C.2.1 dL_desk_28 hl (by decide) rfl (fun ls hl => ?_)
  refine lv_iconst (v := 1) C.1 C.2.1 dL_desk_30 (by decide) ?_
  refine hv_newL C I (by decide +kernel) (N := 1) (by decide) (by decide) (Nat.le_of_ble_eq_true rfl) (Nat.le_of_ble_eq_true rfl) (Nat.le_of_ble_eq_true rfl) dL_desk_31 (fun q7 H nq7 I => ?_)
  obtain ⟨v_q7, e_v_q7⟩ : ∃ z, z = hv_up v_q6 q7 (.inl (G.2.1 4, 1, .inr (.inl (fun _ => 0)))) := ⟨_, rfl⟩
  rw [← e_v_q7] at I
  have le_q7 : hv_le v_q6 v_q7 := fun y e hy => by rw [e_v_q7, hv_up_ne (hv_neN hy nq7)]; exact hy
  have fq3 := le_q7 _ _ fq3
  have fq4 := le_q7 _ _ fq4
  have fq5 := le_q7 _ _ fq5
  have fq6 := le_q7 _ _ fq6
  have fq7 : v_q7 q7 = some (.inl (G.2.1 4, 1, .inr (.inl (fun _ => 0)))) := by rw [e_v_q7]; exact hv_up_eq
  refine lv_astore (lv' := [(7, .ref q7), (6, .ref q6), (5, .ref q5), (4, .ref q4), (3, .ref q3), (2, .ref q), (0, .ref b), (1, .int (nI k0))]) C.1 C.2.1 dL_desk_33 hl (by decide) rfl (fun ls hl => ?_)
  obtain ⟨aa, a0, a1, a2, a3, a4⟩ : ∃ aa : Nat → Nat, aa 0 = q3 ∧ aa 1 = q4 ∧ aa 2 = q5 ∧ aa 3 = q6 ∧ aa 4 = q7 := ⟨fun i => if i = 0 then q3 else if i = 1 then q4 else if i = 2 then q5 else if i = 3 then q6 else q7, rfl, rfl, rfl, rfl, rfl⟩
  have u4 := le_none le_q3 nq4
  have u5 := le_none le_q3 (le_none le_q4 nq5)
  have u6 := le_none le_q3 (le_none le_q4 (le_none le_q5 nq6))
  have u7 := le_none le_q3 (le_none le_q4 (le_none le_q5 (le_none le_q6 nq7)))
  have lec : hv_le u (cut aa v_q7) := fun y e hy => by
    have hy2 := le_q7 _ _ (le_q6 _ _ (le_q5 _ _ (le_q4 _ _ (le_q3 _ _ hy))))
    unfold cut
    rw [if_neg (fun z => by
        rcases z with z | z | z | z | z
        · rw [z, a0, nq3] at hy; cases hy
        · rw [z, a1, u4] at hy; cases hy
        · rw [z, a2, u5] at hy; cases hy
        · rw [z, a3, u6] at hy; cases hy
        · rw [z, a4, u7] at hy; cases hy)]
    exact hy2
  have hD := isD_le lec hD
  have hLV : LV G aa v_q7 (fun _ => 0) (fun _ => 0) (fun _ => 0) (fun _ => 0) (fun _ => 0) := by
    unfold LV
    rw [a0, a1, a2, a3, a4]
    exact ⟨fq3, fq4, fq5, fq6, fq7⟩
  rw [← a0, ← a1, ← a2, ← a3, ← a4, ea] at hl
  have hLV : LV G aa v_q7 (fun _ => 0) (filC 30 0) (fun _ => 0) (fun _ => 0) (fun _ => 0) := by rw [filC_0]; exact hLV
  have hl : lv_has ls 12 [(7, .ref (aa 4)), (6, .ref (aa 3)), (5, .ref (aa 2)), (4, .ref (aa 1)), (3, .ref (aa 0)), (2, .ref (ad 0 0)), (0, .ref b), (1, .int (nI k0))] := hl
  have loop2 : ∀ (k9 k : Nat), k ≤ 60 → 61 ≤ k + k9 → ∀ (v : hv) (H : Heap) (locs : List Loc), Inv G aa (ad 0 0) v → hv_I G h s v H locs → ∀ ls : Array Slot, lv_has ls 12 [(8, .int (nI k)), (7, .ref (aa 4)), (6, .ref (aa 3)), (5, .ref (aa 2)), (4, .ref (aa 1)), (3, .ref (aa 0)), (2, .ref (ad 0 0)), (0, .ref b), (1, .int (nI k0))] → W p l e (hv_rm 16 141100 786200 640) s m ([.ref b, .int (nI k0)] : List Value).toArray below meth c H locs (20 + 2350 * k) (100 + 13100 * k) (MQ below (va_Qi (fun r u => u = h ∧ r = 1) (hv_Bq G h s.heap.size) (hv_A h s.heap.size)) ([.ref b, .int (nI k0)] : List Value).toArray s 141100 786200 (hv_A h s.heap.size)) (F0 m 61 ls []) := by
    intro k9
    induction k9 with
    | zero => intro k hk hin; exact absurd hin (by omega)
    | succ k9 ih =>
      intro k hk hin v H locs hI I ls hl
      have hle0 : hv_le h v := fun y e hy => by rw [hh] at hy; cases hy
      refine lv_iload C.1 C.2.1 dL_desk_61 (lv_at hl 0 rfl) ?_
      refine lv_bipush (v := nI 60) C.1 C.2.1 dL_desk_63 (by decide) ?_
      refine lv_icmp_ge (tgt := 204) C.1 C.2.1 dL_desk_65 (by decide) (fun c65 => ?_) (fun c65 => ?_)
      · refine lv_iconst (v := 1) C.1 C.2.1 dL_desk_204 (by decide) ?_
        exact hv_zret (v := 1) C hr (I.sub hle0) rfl ⟨rfl, rfl⟩ dL_desk_205 (by omega) (by omega)
      · have c65 : ¬ 60 ≤ k := fun z => c65 (nI_le (a := 60) z (by omega))
        refine lv_aload_n C.1 C.2.1 dL_desk_68 rfl (lv_at hl 7 rfl) ?_
        refine lv_iload_n C.1 C.2.1 dL_desk_69 rfl (lv_at hl 8 rfl) ?_
        refine lv_iconst (v := nI 3) C.1 C.2.1 dL_desk_70 (by decide) ?_
        refine lv_iload C.1 C.2.1 dL_desk_71 (lv_at hl 0 rfl) ?_
        refine lv_imul C.1 C.2.1 dL_desk_73 ?_
        refine lv_iadd C.1 C.2.1 dL_desk_74 ?_
        refine lv_iconst (v := nI 1) C.1 C.2.1 dL_desk_75 (by decide) ?_
        refine lv_iadd C.1 C.2.1 dL_desk_76 ?_
        refine lv_topi (fun z ez => ?_)
        have ez := ez.trans (show _ = nI (k0 + 3 * k + 1) by rw [pk_mul, nI_add, nI_add])
        subst ez
        refine lv_ldc C.1 C.2.1 C.2.2.2.1 (C.ts (w := .constant RL 134 (1073741824)) (by decide +kernel)) dL_desk_77 ?_
        refine hv_ki I (va_runS (As := [.ref b, .int (nI (k0 + 3 * k + 1)), .int (nI 1073741824)]) (rest := []) C.fix (c_L_draw l G _ _ (Nat.lt_of_lt_of_le hb1 I.2.2.1) (hv_bn C I hb1 hb2) hL (xs := xs) (k := k0 + 3 * k + 1) (most := 1073741824) (by omega) (by decide) (by decide)) (va_cwS 3 C.2.2.2.2.1 gL_desk_L_draw rfl rfl rfl (by decide +kernel) ⟨Nat.le_of_ble_eq_true rfl, Nat.le_of_ble_eq_true rfl⟩) (hv_preSs C I hX hb1 hb2) rfl rfl hl.1 rfl (lv_room (Nat.le_of_ble_eq_true rfl)) dL_desk_79 ⟨by show _ ≤ 141100; omega, by show _ ≤ 786200; omega⟩) (fun r9 u9 H locs hp I => ?_)
        obtain ⟨e1, x9, hx9, e2⟩ := hp; have e1 := e1.symm; subst e1; subst e2
        refine lv_istore (lv' := [(9, .int (nI x9)), (8, .int (nI k)), (7, .ref (aa 4)), (6, .ref (aa 3)), (5, .ref (aa 2)), (4, .ref (aa 1)), (3, .ref (aa 0)), (2, .ref (ad 0 0)), (0, .ref b), (1, .int (nI k0))]) C.1 C.2.1 dL_desk_82 hl (by decide) rfl (fun ls hl => ?_)
        refine lv_aload_n C.1 C.2.1 dL_desk_84 rfl (lv_at hl 8 rfl) ?_
        refine lv_iload_n C.1 C.2.1 dL_desk_85 rfl (lv_at hl 9 rfl) ?_
        refine lv_iconst (v := nI 3) C.1 C.2.1 dL_desk_86 (by decide) ?_
        refine lv_iload C.1 C.2.1 dL_desk_87 (lv_at hl 1 rfl) ?_
        refine lv_imul C.1 C.2.1 dL_desk_89 ?_
        refine lv_iadd C.1 C.2.1 dL_desk_90 ?_
        refine lv_iconst (v := nI 2) C.1 C.2.1 dL_desk_91 (by decide) ?_
        refine lv_iadd C.1 C.2.1 dL_desk_92 ?_
        refine lv_topi (fun z ez => ?_)
        have ez := ez.trans (show _ = nI (k0 + 3 * k + 2) by rw [pk_mul, nI_add, nI_add])
        subst ez
        refine lv_ldc C.1 C.2.1 C.2.2.2.1 (C.ts (w := .constant RL 134 (1073741824)) (by decide +kernel)) dL_desk_93 ?_
        refine hv_ki I (va_runS (As := [.ref b, .int (nI (k0 + 3 * k + 2)), .int (nI 1073741824)]) (rest := []) C.fix (c_L_draw l G _ _ (Nat.lt_of_lt_of_le hb1 I.2.2.1) (hv_bn C I hb1 hb2) hL (xs := xs) (k := k0 + 3 * k + 2) (most := 1073741824) (by omega) (by decide) (by decide)) (va_cwS 3 C.2.2.2.2.1 gL_desk_L_draw rfl rfl rfl (by decide +kernel) ⟨Nat.le_of_ble_eq_true rfl, Nat.le_of_ble_eq_true rfl⟩) (hv_preSs C I hX hb1 hb2) rfl rfl hl.1 rfl (lv_room (Nat.le_of_ble_eq_true rfl)) dL_desk_95 ⟨by show _ ≤ 141100; omega, by show _ ≤ 786200; omega⟩) (fun r9 u9 H locs hp I => ?_)
        obtain ⟨e1, y9, hy9, e2⟩ := hp; have e1 := e1.symm; subst e1; subst e2
        refine lv_istore (lv' := [(10, .int (nI y9)), (9, .int (nI x9)), (8, .int (nI k)), (7, .ref (aa 4)), (6, .ref (aa 3)), (5, .ref (aa 2)), (4, .ref (aa 1)), (3, .ref (aa 0)), (2, .ref (ad 0 0)), (0, .ref b), (1, .int (nI k0))]) C.1 C.2.1 dL_desk_98 hl (by decide) rfl (fun ls hl => ?_)
        have J156 : ∀ w : Nat, w < 20 → ∀ (H : Heap) (locs : List Loc), hv_I G h s v H locs → W p l e (hv_rm 16 141100 786200 640) s m ([.ref b, .int (nI k0)] : List Value).toArray below meth c H locs (20 + 2350 * k) (100 + 13100 * k) (MQ below (va_Qi (fun r u => u = h ∧ r = 1) (hv_Bq G h s.heap.size) (hv_A h s.heap.size)) ([.ref b, .int (nI k0)] : List Value).toArray s 141100 786200 (hv_A h s.heap.size)) (F0 m 156 ls [.int (nI w)]) := by
          intro w hw H locs I
          refine lv_istore (lv' := [(11, .int (nI w)), (10, .int (nI y9)), (9, .int (nI x9)), (8, .int (nI k)), (7, .ref (aa 4)), (6, .ref (aa 3)), (5, .ref (aa 2)), (4, .ref (aa 1)), (3, .ref (aa 0)), (2, .ref (ad 0 0)), (0, .ref b), (1, .int (nI k0))]) C.1 C.2.1 dL_desk_156 hl (by decide) rfl (fun ls hl => ?_)
          refine lv_aload_n C.1 C.2.1 dL_desk_158 rfl (lv_at hl 9 rfl) ?_
          refine lv_iload C.1 C.2.1 dL_desk_159 (lv_at hl 0 rfl) ?_
          refine lv_iload C.1 C.2.1 dL_desk_161 (lv_at hl 2 rfl) ?_
          refine lv_iload C.1 C.2.1 dL_desk_163 (lv_at hl 1 rfl) ?_
          refine lv_aload_n C.1 C.2.1 dL_desk_165 rfl (lv_at hl 8 rfl) ?_
          refine lv_aload C.1 C.2.1 dL_desk_166 (lv_at hl 7 rfl) ?_
          refine lv_aload C.1 C.2.1 dL_desk_168 (lv_at hl 6 rfl) ?_
          refine lv_aload C.1 C.2.1 dL_desk_170 (lv_at hl 5 rfl) ?_
          refine lv_aload C.1 C.2.1 dL_desk_172 (lv_at hl 4 rfl) ?_
          refine hv_ki I (va_runS (As := [.ref (ad 0 0), .int (nI w), .int (nI x9), .int (nI y9), .ref (aa 0), .ref (aa 1), .ref (aa 2), .ref (aa 3), .ref (aa 4)]) (rest := []) C.fix (s_step l hlt G _ _ hI hw (by omega) (by omega)) (va_cwS 9 C.2.2.2.2.1 gL_desk_L_step rfl rfl rfl (by decide +kernel) ⟨Nat.le_of_ble_eq_true rfl, Nat.le_of_ble_eq_true rfl⟩) (hv_preS C I) rfl rfl hl.1 rfl (lv_room (Nat.le_of_ble_eq_true rfl)) dL_desk_174 ⟨by show _ ≤ 141100; omega, by show _ ≤ 786200; omega⟩) (fun r9 v2 H locs hp I => ?_)
          obtain ⟨e1, hI⟩ := hp; subst e1
          refine lv_if_eq (tgt := 196) C.1 C.2.1 dL_desk_177 (by decide) (fun z => absurd z (by decide)) (fun _ => ?_)
          refine lv_aload_n C.1 C.2.1 dL_desk_180 rfl (lv_at hl 9 rfl) ?_
          refine lv_aload_n C.1 C.2.1 dL_desk_181 rfl (lv_at hl 8 rfl) ?_
          refine lv_aload C.1 C.2.1 dL_desk_182 (lv_at hl 7 rfl) ?_
          refine lv_aload C.1 C.2.1 dL_desk_184 (lv_at hl 5 rfl) ?_
          refine lv_aload C.1 C.2.1 dL_desk_186 (lv_at hl 4 rfl) ?_
          refine lv_iconst (v := nI 0) C.1 C.2.1 dL_desk_188 (by decide) ?_
          obtain ⟨zF, fZ⟩ := inv_z hI
          refine hv_laldN (i := 0) C I fZ (by decide) (by decide) dL_desk_189 ?_
          refine hv_ki I (va_runS (As := [.ref (ad 0 0), .ref (aa 0), .ref (aa 1), .ref (aa 3), .long (zF 0)]) (rest := []) C.fix (s_isDesk l hlt G _ _ hI fZ) (va_cwS 5 C.2.2.2.2.1 gL_desk_L_isDesk rfl rfl rfl (by decide +kernel) ⟨Nat.le_of_ble_eq_true rfl, Nat.le_of_ble_eq_true rfl⟩) (hv_preS C I) rfl rfl hl.1 rfl (lv_room (Nat.le_of_ble_eq_true rfl)) dL_desk_190 ⟨by show _ ≤ 141100; omega, by show _ ≤ 786200; omega⟩) (fun r9 v3 H locs hp I => ?_)
          obtain ⟨e1, e2⟩ := hp; have e1 := e1.symm; subst e1; subst e2
          refine lv_if_ne (tgt := 198) C.1 C.2.1 dL_desk_193 (by decide) (fun _ => ?_) (fun z => absurd z (by decide))
          refine lv_iinc (v := nI (k + 1)) (lv' := [(8, .int (nI (k + 1))), (11, .int (nI w)), (10, .int (nI y9)), (9, .int (nI x9)), (7, .ref (aa 4)), (6, .ref (aa 3)), (5, .ref (aa 2)), (4, .ref (aa 1)), (3, .ref (aa 0)), (2, .ref (ad 0 0)), (0, .ref b), (1, .int (nI k0))]) C.1 C.2.1 dL_desk_198 hl (k := 3) rfl (nI_1 k) (by decide) rfl (fun ls hl => ?_)
          refine lv_goto (tgt := 61) C.1 C.2.1 dL_desk_201 (by decide) ?_
          refine W.widen (k := 20 + 2350 * (k + 1)) (n := 100 + 13100 * (k + 1)) (by omega) (by omega) ?_
          exact ih (k + 1) (by omega) (by omega) _ _ _ hI I ls (lv_sub hl [0, 4, 5, 6, 7, 8, 9, 10, 11] rfl)
        refine lv_iload C.1 C.2.1 dL_desk_100 (lv_at hl 2 rfl) ?_
        refine lv_iconst (v := nI 5) C.1 C.2.1 dL_desk_102 (by decide) ?_
        refine lv_icmp_ge (tgt := 110) C.1 C.2.1 dL_desk_103 (by decide) (fun _ => ?_) (fun _ => ?_)
        · refine lv_iload C.1 C.2.1 dL_desk_110 (lv_at hl 2 rfl) ?_
          refine lv_bipush (v := nI 8) C.1 C.2.1 dL_desk_112 (by decide) ?_
          refine lv_icmp_ge (tgt := 121) C.1 C.2.1 dL_desk_114 (by decide) (fun _ => ?_) (fun _ => ?_)
          · refine lv_iload C.1 C.2.1 dL_desk_121 (lv_at hl 2 rfl) ?_
            refine lv_bipush (v := nI 14) C.1 C.2.1 dL_desk_123 (by decide) ?_
            refine lv_icmp_ge (tgt := 132) C.1 C.2.1 dL_desk_125 (by decide) (fun _ => ?_) (fun _ => ?_)
            · refine lv_iload C.1 C.2.1 dL_desk_132 (lv_at hl 2 rfl) ?_
              refine lv_bipush (v := nI 16) C.1 C.2.1 dL_desk_134 (by decide) ?_
              refine lv_icmp_ge (tgt := 144) C.1 C.2.1 dL_desk_136 (by decide) (fun _ => ?_) (fun _ => ?_)
              · refine lv_aload_n C.1 C.2.1 dL_desk_144 rfl (lv_at hl 9 rfl) ?_
                refine lv_iload_n C.1 C.2.1 dL_desk_145 rfl (lv_at hl 10 rfl) ?_
                refine lv_iconst (v := nI 3) C.1 C.2.1 dL_desk_146 (by decide) ?_
                refine lv_iload C.1 C.2.1 dL_desk_147 (lv_at hl 2 rfl) ?_
                refine lv_imul C.1 C.2.1 dL_desk_149 ?_
                refine lv_iadd C.1 C.2.1 dL_desk_150 ?_
                refine lv_topi (fun z ez => ?_)
                have ez := ez.trans (show _ = nI (k0 + 3 * k) by rw [pk_mul, nI_add])
                subst ez
                refine lv_bipush (v := nI 20) C.1 C.2.1 dL_desk_151 (by decide) ?_
                refine hv_ki I (va_runS (As := [.ref b, .int (nI (k0 + 3 * k)), .int (nI 20)]) (rest := []) C.fix (c_L_draw l G _ _ (Nat.lt_of_lt_of_le hb1 I.2.2.1) (hv_bn C I hb1 hb2) hL (xs := xs) (k := k0 + 3 * k) (most := 20) (by omega) (by decide) (by decide)) (va_cwS 3 C.2.2.2.2.1 gL_desk_L_draw rfl rfl rfl (by decide +kernel) ⟨Nat.le_of_ble_eq_true rfl, Nat.le_of_ble_eq_true rfl⟩) (hv_preSs C I hX hb1 hb2) rfl rfl hl.1 rfl (lv_room (Nat.le_of_ble_eq_true rfl)) dL_desk_153 ⟨by show _ ≤ 141100; omega, by show _ ≤ 786200; omega⟩) (fun r9 u9 H locs hp I => ?_)
                obtain ⟨e1, w9, hw9, e2⟩ := hp; have e1 := e1.symm; subst e1; subst e2
                refine W.widen (k := 20 + 2350 * k) (n := 100 + 13100 * k) (by omega) (by omega) ?_
                exact J156 w9 hw9 _ _ I
              · refine lv_bipush (v := nI 8) C.1 C.2.1 dL_desk_139 (by decide) ?_
                refine lv_goto (tgt := 156) C.1 C.2.1 dL_desk_141 (by decide) ?_
                refine W.widen (k := 20 + 2350 * k) (n := 100 + 13100 * k) (by omega) (by omega) ?_
                exact J156 8 (by decide) _ _ I
            · refine lv_iconst (v := nI 3) C.1 C.2.1 dL_desk_128 (by decide) ?_
              refine lv_goto (tgt := 156) C.1 C.2.1 dL_desk_129 (by decide) ?_
              refine W.widen (k := 20 + 2350 * k) (n := 100 + 13100 * k) (by omega) (by omega) ?_
              exact J156 3 (by decide) _ _ I
          · refine lv_iconst (v := nI 5) C.1 C.2.1 dL_desk_117 (by decide) ?_
            refine lv_goto (tgt := 156) C.1 C.2.1 dL_desk_118 (by decide) ?_
            refine W.widen (k := 20 + 2350 * k) (n := 100 + 13100 * k) (by omega) (by omega) ?_
            exact J156 5 (by decide) _ _ I
        · refine lv_iconst (v := nI 0) C.1 C.2.1 dL_desk_106 (by decide) ?_
          refine lv_goto (tgt := 156) C.1 C.2.1 dL_desk_107 (by decide) ?_
          refine W.widen (k := 20 + 2350 * k) (n := 100 + 13100 * k) (by omega) (by omega) ?_
          exact J156 0 (by decide) _ _ I
  have loop : ∀ (k9 k : Nat), k ≤ 12 → 13 ≤ k + k9 → ∀ (v : hv) (H : Heap) (locs : List Loc), isD G (cut aa v) ad 0 0 0 0 0 arI (fun _ => 0) (fun _ => []) → LV G aa v (fun _ => 0) (filC 30 k) (fun _ => 0) (fun _ => 0) (fun _ => 0) → hv_I G h s v H locs → ∀ ls : Array Slot, lv_has ls 12 [(8, .int (nI k)), (7, .ref (aa 4)), (6, .ref (aa 3)), (5, .ref (aa 2)), (4, .ref (aa 1)), (3, .ref (aa 0)), (2, .ref (ad 0 0)), (0, .ref b), (1, .int (nI k0))] → W p l e (hv_rm 16 141100 786200 640) s m ([.ref b, .int (nI k0)] : List Value).toArray below meth c H locs (20) (100) (MQ below (va_Qi (fun r u => u = h ∧ r = 1) (hv_Bq G h s.heap.size) (hv_A h s.heap.size)) ([.ref b, .int (nI k0)] : List Value).toArray s 141100 786200 (hv_A h s.heap.size)) (F0 m 38 ls []) := by
    intro k9
    induction k9 with
    | zero => intro k hk hin; exact absurd hin (by omega)
    | succ k9 ih =>
      intro k hk hin v H locs hD hLV I ls hl
      refine lv_iload C.1 C.2.1 dL_desk_38 (lv_at hl 0 rfl) ?_
      refine lv_bipush (v := nI 12) C.1 C.2.1 dL_desk_40 (by decide) ?_
      refine lv_icmp_ge (tgt := 58) C.1 C.2.1 dL_desk_42 (by decide) (fun c42 => ?_) (fun c42 => ?_)
      · have e12 : k = 12 := by have := (nI_leI (a := 12) (b := k) (by decide) (by omega)).mp c42; omega
        rw [e12] at hLV
        refine lv_iconst (v := nI 0) C.1 C.2.1 dL_desk_58 (by decide) ?_
        refine lv_istore (lv' := [(8, .int (nI 0)), (7, .ref (aa 4)), (6, .ref (aa 3)), (5, .ref (aa 2)), (4, .ref (aa 1)), (3, .ref (aa 0)), (2, .ref (ad 0 0)), (0, .ref b), (1, .int (nI k0))]) C.1 C.2.1 dL_desk_59 hl (by decide) rfl (fun ls hl => ?_)
        exact loop2 61 0 (by decide) (by decide) v H locs (inv_mk hD Nm_init hLV) I ls hl
      · have c42 : k < 12 := Nat.lt_of_not_le (fun z => c42 (nI_le (a := 12) z (by omega)))
        refine lv_aload C.1 C.2.1 dL_desk_45 (lv_at hl 4 rfl) ?_
        refine lv_iload C.1 C.2.1 dL_desk_47 (lv_at hl 0 rfl) ?_
        refine lv_bipush (v := 30) C.1 C.2.1 dL_desk_49 (by decide) ?_
        obtain ⟨fH, fT, fP, fC, fZ⟩ := id hLV
        refine hv_iastN (i := k) C I fT c42 (by decide) dL_desk_51 (fun H locs I => ?_)
        rw [filC_1] at I
        obtain ⟨w, ew⟩ : ∃ z, z = hv_up v (aa 1) (.inl (G.2.1 0, 12, .inl (filC 30 (k + 1)))) := ⟨_, rfl⟩
        rw [← ew] at I
        have hD : isD G (cut aa w) ad 0 0 0 0 0 arI (fun _ => 0) (fun _ => []) := by rw [ew, cut_up (Or.inr (Or.inl rfl))]; exact hD
        have hLV : LV G aa w (fun _ => 0) (filC 30 (k + 1)) (fun _ => 0) (fun _ => 0) (fun _ => 0) := by
          rw [ew]
          exact ⟨by rw [hv_up_ne (hv_neLen fH fT (by decide))]; exact fH, hv_up_eq, by rw [hv_up_ne (hv_neLen fP fT (by decide))]; exact fP, by rw [hv_up_ne (hv_neLen fC fT (by decide))]; exact fC, by rw [hv_up_ne (hv_neLen fZ fT (by decide))]; exact fZ⟩
        refine lv_iinc (v := nI (k + 1)) (lv' := [(8, .int (nI (k + 1))), (7, .ref (aa 4)), (6, .ref (aa 3)), (5, .ref (aa 2)), (4, .ref (aa 1)), (3, .ref (aa 0)), (2, .ref (ad 0 0)), (0, .ref b), (1, .int (nI k0))]) C.1 C.2.1 dL_desk_52 hl (k := 0) rfl (nI_1 k) (by decide) rfl (fun ls hl => ?_)
        refine lv_goto (tgt := 38) C.1 C.2.1 dL_desk_55 (by decide) ?_
        exact ih (k + 1) (by omega) (by omega) w _ _ hD hLV I ls hl
  refine lv_iconst (v := nI 0) C.1 C.2.1 dL_desk_35 (by decide) ?_
  refine lv_istore (lv' := [(8, .int (nI 0)), (7, .ref (aa 4)), (6, .ref (aa 3)), (5, .ref (aa 2)), (4, .ref (aa 1)), (3, .ref (aa 0)), (2, .ref (ad 0 0)), (0, .ref b), (1, .int (nI k0))]) C.1 C.2.1 dL_desk_36 hl (by decide) rfl (fun ls hl => ?_)
  refine W.widen (k := 20) (n := 100) (by omega) (by omega) ?_
  exact loop 13 0 (by decide) (by decide) v_q7 _ _ hD hLV I ls hl
