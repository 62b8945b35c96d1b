/-! ===== the law's small methods ===== -/
theorem nIm_neg {q : Nat} (h : q < 2 ^ 30) : nI q - 1 < 0 ↔ q = 0 := by
  cases q with
  | zero => exact ⟨fun _ => rfl, fun _ => by rw [nI_m1]; decide⟩
  | succ q =>
    rw [nI_pred]
    exact ⟨fun z => absurd z (nI_pos (by omega)), fun z => by omega⟩
theorem nIm_365 {q : Nat} (h : ¬ q = 0) : nI q - 1 + 365 = nI (q + 364) := by
  obtain ⟨k, rfl⟩ : ∃ k, q = k + 1 := ⟨q - 1, by omega⟩
  rw [nI_pred, show (365 : Int32) = nI 365 from rfl, nI_add]
section SXK
variable {p : Program} {l : Launch} {e : Env} {R : Room} {s : State} {m : MethodId} {args : Array Value} {below : List Frame} {meth : Method} {c : Code} {H : Heap} {locs : List Loc} {cells slots : Nat} {Q : State → Prop}
variable {cc : ByteArray} {pc : Nat} {ls : Array Slot} {st0 rest : List Value} {G : hv_G} {h0 J a : hv} {own : String} {nL : Nat} {Ts : List Cond} {mc ms : Nat} {aa : Array Value}
theorem hv_sxk (I : hv_I G h0 s J H locs) (h : hv_le a J) {post : Int32 → hv → Prop} {px : String → hv → Prop} (hr : vx_Run p l e R s m args below meth c H locs cells slots mc ms (F0 m pc ls st0) rest (va_Qi post (hv_Bq G a H.size) (hv_A a H.size) aa) (hv_X G a H.size px) (hv_A a H.size))
    (kx : ∀ (E : String) (ce : Cell) (q9 : Addr) (u J2 : hv) (H1 : Heap) (locs1 : List Loc), px E u → hv_fr J a u J2 → hv_I G h0 s J2 H1 locs1 → H1[q9]? = some ce → ce.vm = .none → s.vm.findClass E = some ce.cls → vx_W p l e R s m args below meth c H1 locs1 (cells + mc) (slots + ms) Q (F0 m pc ls rest) q9)
    (kk : ∀ (r : Int32) (u J2 : hv) (H1 : Heap) (locs1 : List Loc), post r u → hv_fr J a u J2 → hv_I G h0 s J2 H1 locs1 → W p l e R s m args below meth c H1 locs1 (cells + mc) (slots + ms) Q (F0 m (pc + 3) ls (.int r :: rest))) : W p l e R s m args below meth c H locs cells slots Q (F0 m pc ls st0) :=
  vx_calli hr I.2.2 (fun q _ hq => hv_sub (I.sub h) q hq) (hv_sub (I.sub h)) (fun q _ hq => hv_sub (I.sub h) q hq)
    (fun E ce q9 u t H1 locs1 ht _ _ hB _ hk hS h1 h2 h3 => by
      obtain ⟨d1, K⟩ := I.after h ⟨ht ▸ hB.2.1, fun x hx => hv_sub (I.sub h) x (hB.2.2 x hx), hS⟩ hB.2.2 hk
      exact kx E ce q9 u _ H1 locs1 hB.1 d1 K h1 h2 h3)
    (fun r u t H1 locs1 ht _ hp hB _ hk hS => by
      obtain ⟨d1, K⟩ := I.after h ⟨ht ▸ hB.1, fun x hx => hv_sub (I.sub h) x (hB.2 x hx), hS⟩ hB.2 hk
      exact kk r u _ H1 locs1 hp d1 K)
end SXK
/-! ===== bodies with handlers ===== -/
theorem hv_enterH {l : Launch} {y : MethodName} {ws ws' : List Cond} {f lo mc ms : Nat} {G : hv_G} {h : hv} {sz : Nat} {avs : List Value} {cc : ByteArray} {maxL : Nat} {ret : Option FieldType} {own : String} {hh : List (Nat × Nat × Nat × Nat)} {Qf : Nat → Array Value → State → Outcome → State → Prop} {XC : Nat → String → State → State → Prop} (hy : plainName y.cls = true) (hw : ws = Cond.codeWith y cc maxL ret hh :: ws') (hown : y.cls = own) (hlen : (lg_sl avs).length ≤ maxL)
    (body : ∀ (p : Program) (e : Env) (s : State) (m : MethodId) (below : List Frame) (meth : Method) (c : Code), meth.sig.returnType = ret → c.exceptionTable.toList = tableOf hh → hv_C p s m avs.toArray meth c own cc maxL ws G h → hv_I G h s h s.heap [] → ∀ ls : Array Slot, lv_has ls maxL (lv_args 0 avs) →
      W p l e (hv_rm f mc ms lo) s m avs.toArray below meth c s.heap [] 0 0 (vx_MQ below (Qf s.heap.size) (XC s.heap.size) avs.toArray s mc ms (hv_A h s.heap.size)) (F0 m 0 ls [])) :
    vx_Met l y ws (hv_rm f mc ms lo) (va_Pc avs (hv_B G h sz)) (Qf sz) (XC sz) mc ms (hv_A h sz) := by
  subst hown
  refine vx_ofWH (cc := cc) (maxL := maxL) (ret := ret) (hh := hh) hy hw ?_
  intro p e s m args below meth c s₁ B hml hq
  obtain ⟨rfl, hsz, hP, hE⟩ := hq
  subst hsz
  rw [lg_entry_eq]
  exact body p e s m below meth c B.returns (vx_table (x := y) B (atoms_spec (ws := ws) B.pre _ (by rw [hw]; exact List.mem_cons_self))) ⟨B.exec, B.bytes, hml, findClass_of_methodNamed B.named, atoms_spec (ws := ws) B.pre, B.notSynchronized, hE⟩ ⟨hP, fun a ha => Or.inl ha, va_S.rf⟩ _ (lv_entry avs hlen)
set_option maxHeartbeats 4000000 in
set_option maxRecDepth 100000 in
theorem c_L_part (l : Launch) (G : hv_G) (h : hv) (sz : Nat)  (x : Int64) (f b : Nat) {v : Int32} (ev : ptF x f b = v) : hv_Mi l yL_part wsL_part 0 0 0 0 G h sz [.long x, .int (nI f), .int (nI b)] (fun r u => u = h ∧ r = v) := by
  refine hv_enter (y := yL_part) (avs := [.long x, .int (nI f), .int (nI b)]) (maxL := 4) (Qf := fun sz => va_Qi (fun r u => u = h ∧ r = v) (hv_Bq G h sz) (hv_A h sz)) (by decide) rfl rfl (Nat.le_of_ble_eq_true rfl) ?_
  intro p e s m below meth c hr hnm C I ls hl
  have hl : lv_has ls 4 [(0, .long x), (2, .int (nI f)), (3, .int (nI b))] := hl
  refine lv_lload_n C.1 C.2.1 dL_part_0 rfl (lv_at hl 0 rfl) ?_
  refine lv_iload_n C.1 C.2.1 dL_part_1 rfl (lv_at hl 1 rfl) ?_
  refine lv_lshr C.1 C.2.1 dL_part_2 rfl ?_
  refine lv_lconst (v := 1) C.1 C.2.1 dL_part_3 (by decide) ?_
  refine lv_iload_n C.1 C.2.1 dL_part_4 rfl (lv_at hl 2 rfl) ?_
  refine lv_lshl C.1 C.2.1 dL_part_5 rfl ?_
  refine lv_lconst (v := 1) C.1 C.2.1 dL_part_6 (by decide) ?_
  refine lv_lsub C.1 C.2.1 dL_part_7 ?_
  refine lv_land C.1 C.2.1 dL_part_8 ?_
  refine lv_l2i C.1 C.2.1 dL_part_9 rfl ?_
  exact hv_iret (v := (((x >>> ((nI f).toInt64 &&& 63)) &&& (((1 : Int64) <<< ((nI b).toInt64 &&& 63)) - 1)).toInt32)) C hr I (⟨rfl, ev⟩) dL_part_10 (Nat.le_of_ble_eq_true rfl) (Nat.le_of_ble_eq_true rfl)

set_option maxHeartbeats 4000000 in
set_option maxRecDepth 100000 in
theorem c_L_with (l : Launch) (G : hv_G) (h : hv) (sz : Nat)  (x : Int64) (f b : Nat) (v : Int32) : hv_Ml l yL_with wsL_with 0 0 0 0 G h sz [.long x, .int (nI f), .int (nI b), .int v] (fun r u => u = h ∧ r = wtF x f b v) := by
  refine hv_enter (y := yL_with) (avs := [.long x, .int (nI f), .int (nI b), .int v]) (maxL := 5) (Qf := fun sz => va_Ql (fun r u => u = h ∧ r = wtF x f b v) (hv_Bq G h sz) (hv_A h sz)) (by decide) rfl rfl (Nat.le_of_ble_eq_true rfl) ?_
  intro p e s m below meth c hr hnm C I ls hl
  have hl : lv_has ls 5 [(0, .long x), (2, .int (nI f)), (3, .int (nI b)), (4, .int v)] := hl
  refine lv_lload_n C.1 C.2.1 dL_with_0 rfl (lv_at hl 0 rfl) ?_
  refine lv_lconst (v := 1) C.1 C.2.1 dL_with_1 (by decide) ?_
  refine lv_iload_n C.1 C.2.1 dL_with_2 rfl (lv_at hl 2 rfl) ?_
  refine lv_lshl C.1 C.2.1 dL_with_3 rfl ?_
  refine lv_lconst (v := 1) C.1 C.2.1 dL_with_4 (by decide) ?_
  refine lv_lsub C.1 C.2.1 dL_with_5 ?_
  refine lv_iload_n C.1 C.2.1 dL_with_6 rfl (lv_at hl 1 rfl) ?_
  refine lv_lshl C.1 C.2.1 dL_with_7 rfl ?_
  refine lv_ldc2 C.1 C.2.1 C.2.2.2.1 (C.ts (w := .constantLong RL 10 (-1)) (by decide +kernel)) dL_with_8 ?_
  refine lv_lxor C.1 C.2.1 dL_with_11 ?_
  refine lv_land C.1 C.2.1 dL_with_12 ?_
  refine lv_iload C.1 C.2.1 dL_with_13 (lv_at hl 3 rfl) ?_
  refine lv_i2l C.1 C.2.1 dL_with_15 rfl ?_
  refine lv_iload_n C.1 C.2.1 dL_with_16 rfl (lv_at hl 1 rfl) ?_
  refine lv_lshl C.1 C.2.1 dL_with_17 rfl ?_
  refine lv_lor C.1 C.2.1 dL_with_18 ?_
  exact hv_lret (v := ((x &&& (((((1 : Int64) <<< ((nI b).toInt64 &&& 63)) - 1) <<< ((nI f).toInt64 &&& 63)) ^^^ (-1))) ||| (v.toInt64 <<< ((nI f).toInt64 &&& 63)))) C hr I (⟨rfl, rfl⟩) dL_with_19 (Nat.le_of_ble_eq_true rfl) (Nat.le_of_ble_eq_true rfl)

set_option maxHeartbeats 4000000 in
set_option maxRecDepth 100000 in
theorem c_L_isLarge (l : Launch) (G : hv_G) (h : hv) (sz : Nat)  {aa : Nat → Nat} {t k : Nat} {ar : AR} {hF : Nat → Int64} {cF : Nat → Int32} {kd ld sh fo si : Nat → Nat} (fH : h (aa 0) = some (.inl (G.2.1 4, 20, .inr (.inl hF)))) (fC : h (aa 3) = some (.inl (G.2.1 0, 3, .inl cF))) (hk : k < 20) (hK1 : NK t ar hF kd ld sh fo si k) (ec0 : cF 0 = nI t) (bt : t ≤ 20000) : hv_Mi l yL_isLarge wsL_isLarge 1 60 0 0 G h sz [.ref (aa 0), .ref (aa 3), .int (nI k)] (fun r u => u = h ∧ r = bI (lgB (kd k) (sh k) (si k) t)) := by
  obtain ⟨_, _, q1, q2, q3, q4⟩ := id hK1
  have qk : kd k ≤ 2 := by omega
  refine hv_enter (y := yL_isLarge) (avs := [.ref (aa 0), .ref (aa 3), .int (nI k)]) (maxL := 4) (Qf := fun sz => va_Qi (fun r u => u = h ∧ r = bI (lgB (kd k) (sh k) (si k) t)) (hv_Bq G h sz) (hv_A h sz)) (by decide) rfl rfl (Nat.le_of_ble_eq_true rfl) ?_
  intro p e s m below meth c hr hnm C I ls hl
  have hl : lv_has ls 4 [(0, .ref (aa 0)), (1, .ref (aa 3)), (2, .int (nI k))] := hl
  refine lv_aload_n C.1 C.2.1 dL_isLarge_0 rfl (lv_at hl 0 rfl) ?_
  refine lv_iload_n C.1 C.2.1 dL_isLarge_1 rfl (lv_at hl 2 rfl) ?_
  refine hv_laldN (i := k) C I fH (by omega) (by decide) dL_isLarge_2 ?_
  refine lv_bipush (v := 40) C.1 C.2.1 dL_isLarge_3 (by decide) ?_
  refine lv_bipush (v := 15) C.1 C.2.1 dL_isLarge_5 (by decide) ?_
  refine hv_ki I (va_runS (As := [.long (hF k), .int 40, .int 15]) (rest := []) C.fix (c_L_part l G h _ (hF k) 40 15 (v := nI (si k)) hK1.2.1.2.2.2.2) (va_cwS 3 C.2.2.2.2.1 gL_isLarge_L_part rfl rfl rfl (by decide +kernel) ⟨Nat.le_of_ble_eq_true rfl, Nat.le_of_ble_eq_true rfl⟩) (hv_preS C I) rfl rfl hl.1 rfl (lv_room (Nat.le_of_ble_eq_true rfl)) dL_isLarge_7 ⟨Nat.le_of_ble_eq_true rfl, Nat.le_of_ble_eq_true rfl⟩) (fun ru_1 u_1 H locs pu_1 I => ?_)
  obtain ⟨e1, e2⟩ := pu_1; have e1 := e1.symm; subst e1; have e2 := e2.symm; subst e2
  refine lv_iconst (v := 1) C.1 C.2.1 dL_isLarge_10 (by decide) ?_
  refine lv_isub C.1 C.2.1 dL_isLarge_11 ?_
  refine lv_istore_n (lv' := [(3, .int ((nI (si k)) - 1)), (0, .ref (aa 0)), (1, .ref (aa 3)), (2, .int (nI k))]) C.1 C.2.1 dL_isLarge_12 rfl hl (by decide) rfl (fun ls hl => ?_)
  refine lv_aload_n C.1 C.2.1 dL_isLarge_13 rfl (lv_at hl 1 rfl) ?_
  refine lv_iload_n C.1 C.2.1 dL_isLarge_14 rfl (lv_at hl 3 rfl) ?_
  refine hv_laldN (i := k) C I fH (by omega) (by decide) dL_isLarge_15 ?_
  refine lv_iconst (v := 0) C.1 C.2.1 dL_isLarge_16 (by decide) ?_
  refine lv_iconst (v := 2) C.1 C.2.1 dL_isLarge_17 (by decide) ?_
  refine hv_ki I (va_runS (As := [.long (hF k), .int 0, .int 2]) (rest := []) C.fix (c_L_part l G h _ (hF k) 0 2 (v := nI (kd k)) hK1.2.1.1) (va_cwS 3 C.2.2.2.2.1 gL_isLarge_L_part rfl rfl rfl (by decide +kernel) ⟨Nat.le_of_ble_eq_true rfl, Nat.le_of_ble_eq_true rfl⟩) (hv_preS C I) rfl rfl hl.1 rfl (lv_room (Nat.le_of_ble_eq_true rfl)) dL_isLarge_18 ⟨Nat.le_of_ble_eq_true rfl, Nat.le_of_ble_eq_true rfl⟩) (fun ru_2 u_2 H locs pu_2 I => ?_)
  obtain ⟨e1, e2⟩ := pu_2; have e1 := e1.symm; subst e1; have e2 := e2.symm; subst e2
  refine lv_iconst (v := 1) C.1 C.2.1 dL_isLarge_21 (by decide) ?_
  refine lv_icmp_ne (tgt := 58) C.1 C.2.1 dL_isLarge_22 (by decide) (fun c22 => ?_) (fun c22 => ?_)
  · have c22 : ¬ (kd k = 1) := fun z => c22 ((nI_eq (a := kd k) (b := 1) (by omega) (by omega)).mpr z)
    refine lv_iconst (v := 0) C.1 C.2.1 dL_isLarge_58 (by decide) ?_
    exact hv_zret (v := 0) C hr I rfl (⟨rfl, bI_0 (fun z => by have w := lgB_iff.mp z; omega)⟩) dL_isLarge_59 (Nat.le_of_ble_eq_true rfl) (Nat.le_of_ble_eq_true rfl)
  · have c22 : kd k = 1 := (nI_eq (a := kd k) (b := 1) (by omega) (by omega)).mp c22
    refine lv_aload_n C.1 C.2.1 dL_isLarge_25 rfl (lv_at hl 1 rfl) ?_
    refine lv_iload_n C.1 C.2.1 dL_isLarge_26 rfl (lv_at hl 3 rfl) ?_
    refine hv_laldN (i := k) C I fH (by omega) (by decide) dL_isLarge_27 ?_
    refine lv_iconst (v := 5) C.1 C.2.1 dL_isLarge_28 (by decide) ?_
    refine lv_bipush (v := 20) C.1 C.2.1 dL_isLarge_29 (by decide) ?_
    refine hv_ki I (va_runS (As := [.long (hF k), .int 5, .int 20]) (rest := []) C.fix (c_L_part l G h _ (hF k) 5 20 (v := nI (sh k)) hK1.2.1.2.2.1) (va_cwS 3 C.2.2.2.2.1 gL_isLarge_L_part rfl rfl rfl (by decide +kernel) ⟨Nat.le_of_ble_eq_true rfl, Nat.le_of_ble_eq_true rfl⟩) (hv_preS C I) rfl rfl hl.1 rfl (lv_room (Nat.le_of_ble_eq_true rfl)) dL_isLarge_31 ⟨Nat.le_of_ble_eq_true rfl, Nat.le_of_ble_eq_true rfl⟩) (fun ru_3 u_3 H locs pu_3 I => ?_)
    obtain ⟨e1, e2⟩ := pu_3; have e1 := e1.symm; subst e1; have e2 := e2.symm; subst e2
    refine lv_ldc C.1 C.2.1 C.2.2.2.1 (C.ts (w := .constant RL 36 (100000)) (by decide +kernel)) dL_isLarge_34 ?_
    refine lv_icmp_lt (tgt := 58) C.1 C.2.1 dL_isLarge_36 (by decide) (fun c36 => ?_) (fun c36 => ?_)
    · have c36 : sh k < 100000 := (nI_ltI (a := sh k) (b := 100000) (by omega) (by omega)).mp c36
      refine lv_iconst (v := 0) C.1 C.2.1 dL_isLarge_58 (by decide) ?_
      exact hv_zret (v := 0) C hr I rfl (⟨rfl, bI_0 (fun z => by have w := lgB_iff.mp z; omega)⟩) dL_isLarge_59 (Nat.le_of_ble_eq_true rfl) (Nat.le_of_ble_eq_true rfl)
    · have c36 : ¬ (sh k < 100000) := fun z => c36 ((nI_ltI (a := sh k) (b := 100000) (by omega) (by omega)).mpr z)
      refine lv_iload_n C.1 C.2.1 dL_isLarge_39 rfl (lv_at hl 0 rfl) ?_
      refine lv_if_lt (tgt := 58) C.1 C.2.1 dL_isLarge_40 (by decide) (fun c40 => ?_) (fun c40 => ?_)
      · have c40 : si k = 0 := (nIm_neg (by omega)).mp c40
        refine lv_iconst (v := 0) C.1 C.2.1 dL_isLarge_58 (by decide) ?_
        exact hv_zret (v := 0) C hr I rfl (⟨rfl, bI_0 (fun z => by have w := lgB_iff.mp z; omega)⟩) dL_isLarge_59 (Nat.le_of_ble_eq_true rfl) (Nat.le_of_ble_eq_true rfl)
      · have c40 : ¬ si k = 0 := fun z => c40 ((nIm_neg (by omega)).mpr z)
        refine lv_iload_n C.1 C.2.1 dL_isLarge_43 rfl (lv_at hl 0 rfl) ?_
        refine lv_sipush (v := 365) C.1 C.2.1 dL_isLarge_44 (by decide) ?_
        refine lv_iadd C.1 C.2.1 dL_isLarge_47 ?_
        refine lv_topi (fun z_4 ez_4 => ?_)
        have ez_4 := ez_4.trans (show _ = nI (si k + 364) by exact nIm_365 c40)
        subst ez_4
        refine lv_aload_n C.1 C.2.1 dL_isLarge_48 rfl (lv_at hl 2 rfl) ?_
        refine lv_iconst (v := 0) C.1 C.2.1 dL_isLarge_49 (by decide) ?_
        refine hv_ialdN (i := 0) C I fC (by decide) (by decide) dL_isLarge_50 ?_
        refine lv_topi (fun z_5 ez_5 => ?_)
        have ez_5 := ez_5.trans (show _ = nI t by exact ec0)
        subst ez_5
        refine lv_icmp_gt (tgt := 58) C.1 C.2.1 dL_isLarge_51 (by decide) (fun c51 => ?_) (fun c51 => ?_)
        · have c51 : t < si k + 364 := (nI_ltI (a := t) (b := si k + 364) (by omega) (by omega)).mp c51
          refine lv_iconst (v := 0) C.1 C.2.1 dL_isLarge_58 (by decide) ?_
          exact hv_zret (v := 0) C hr I rfl (⟨rfl, bI_0 (fun z => by have w := lgB_iff.mp z; omega)⟩) dL_isLarge_59 (Nat.le_of_ble_eq_true rfl) (Nat.le_of_ble_eq_true rfl)
        · have c51 : ¬ (t < si k + 364) := fun z => c51 ((nI_ltI (a := t) (b := si k + 364) (by omega) (by omega)).mpr z)
          refine lv_iconst (v := 1) C.1 C.2.1 dL_isLarge_54 (by decide) ?_
          refine lv_goto (tgt := 59) C.1 C.2.1 dL_isLarge_55 (by decide) ?_
          exact hv_zret (v := 1) C hr I rfl (⟨rfl, bI_1 (lgB_iff.mpr ⟨by omega, by omega, by omega, by omega⟩)⟩) dL_isLarge_59 (Nat.le_of_ble_eq_true rfl) (Nat.le_of_ble_eq_true rfl)

set_option maxHeartbeats 4000000 in
set_option maxRecDepth 100000 in
theorem c_L_rate (l : Launch) (G : hv_G) (h : hv) (sz : Nat)  {aa : Nat → Nat} {t k : Nat} {ar : AR} {hF : Nat → Int64} {tF cF : Nat → Int32} {kd ld sh fo si g la : Nat → Nat} (fH : h (aa 0) = some (.inl (G.2.1 4, 20, .inr (.inl hF)))) (fT : h (aa 1) = some (.inl (G.2.1 0, 12, .inl tF))) (fC : h (aa 3) = some (.inl (G.2.1 0, 3, .inl cF))) (hk : k < 20) (hK1 : NK t ar hF kd ld sh fo si k) (ec0 : cF 0 = nI t) (bt : t ≤ 20000) (hR : NR ar tF g la) (h2 : kd k < 2) : hv_Mi l yL_rate wsL_rate 2 120 0 0 G h sz [.ref (aa 0), .ref (aa 1), .ref (aa 3), .int (nI k)] (fun r u => u = h ∧ r = nI (rtN (lgB (kd k) (sh k) (si k) t) (g (ld k - 1)) (la (ld k - 1)))) := by
  obtain ⟨_, _, q1, q2, q3, q4⟩ := id hK1
  have qk : kd k ≤ 2 := by omega
  obtain ⟨⟨_, r1, r2⟩, _, r3, r4⟩ := hR (ld k - 1) (by omega)
  refine hv_enter (y := yL_rate) (avs := [.ref (aa 0), .ref (aa 1), .ref (aa 3), .int (nI k)]) (maxL := 5) (Qf := fun sz => va_Qi (fun r u => u = h ∧ r = nI (rtN (lgB (kd k) (sh k) (si k) t) (g (ld k - 1)) (la (ld k - 1)))) (hv_Bq G h sz) (hv_A h sz)) (by decide) rfl rfl (Nat.le_of_ble_eq_true rfl) ?_
  intro p e s m below meth c hr hnm C I ls hl
  have hl : lv_has ls 5 [(0, .ref (aa 0)), (1, .ref (aa 1)), (2, .ref (aa 3)), (3, .int (nI k))] := hl
  refine lv_aload_n C.1 C.2.1 dL_rate_0 rfl (lv_at hl 0 rfl) ?_
  refine lv_iload_n C.1 C.2.1 dL_rate_1 rfl (lv_at hl 3 rfl) ?_
  refine hv_laldN (i := k) C I fH (by omega) (by decide) dL_rate_2 ?_
  refine lv_iconst (v := 2) C.1 C.2.1 dL_rate_3 (by decide) ?_
  refine lv_iconst (v := 3) C.1 C.2.1 dL_rate_4 (by decide) ?_
  refine hv_ki I (va_runS (As := [.long (hF k), .int 2, .int 3]) (rest := []) C.fix (c_L_part l G h _ (hF k) 2 3 (v := nI (ld k)) hK1.2.1.2.1) (va_cwS 3 C.2.2.2.2.1 gL_rate_L_part rfl rfl rfl (by decide +kernel) ⟨Nat.le_of_ble_eq_true rfl, Nat.le_of_ble_eq_true rfl⟩) (hv_preS C I) rfl rfl hl.1 rfl (lv_room (Nat.le_of_ble_eq_true rfl)) dL_rate_5 ⟨Nat.le_of_ble_eq_true rfl, Nat.le_of_ble_eq_true rfl⟩) (fun ru_1 u_1 H locs pu_1 I => ?_)
  obtain ⟨e1, e2⟩ := pu_1; have e1 := e1.symm; subst e1; have e2 := e2.symm; subst e2
  refine lv_iconst (v := 1) C.1 C.2.1 dL_rate_8 (by decide) ?_
  refine lv_isub C.1 C.2.1 dL_rate_9 ?_
  refine lv_topi (fun z_2 ez_2 => ?_)
  have ez_2 := ez_2.trans (show _ = nI ((ld k) - 1) by exact pk_sub (a := (ld k)) (b := 1) (by omega))
  subst ez_2
  refine lv_istore (lv' := [(4, .int (nI ((ld k) - 1))), (0, .ref (aa 0)), (1, .ref (aa 1)), (2, .ref (aa 3)), (3, .int (nI k))]) C.1 C.2.1 dL_rate_10 hl (by decide) rfl (fun ls hl => ?_)
  refine lv_aload_n C.1 C.2.1 dL_rate_12 rfl (lv_at hl 1 rfl) ?_
  refine lv_aload_n C.1 C.2.1 dL_rate_13 rfl (lv_at hl 3 rfl) ?_
  refine lv_iload_n C.1 C.2.1 dL_rate_14 rfl (lv_at hl 4 rfl) ?_
  refine hv_ki I (va_runS (As := [.ref (aa 0), .ref (aa 3), .int (nI k)]) (rest := []) C.fix (c_L_isLarge l G h _ fH fC hk hK1 ec0 bt) (va_cwS 3 C.2.2.2.2.1 gL_rate_L_isLarge rfl rfl rfl (by decide +kernel) ⟨Nat.le_of_ble_eq_true rfl, Nat.le_of_ble_eq_true rfl⟩) (hv_preS C I) rfl rfl hl.1 rfl (lv_room (Nat.le_of_ble_eq_true rfl)) dL_rate_15 ⟨Nat.le_of_ble_eq_true rfl, Nat.le_of_ble_eq_true rfl⟩) (fun ru_3 u_3 H locs pu_3 I => ?_)
  obtain ⟨e1, e2⟩ := pu_3; have e1 := e1.symm; subst e1; have e2 := e2.symm; subst e2
  refine lv_if_eq (tgt := 49) C.1 C.2.1 dL_rate_18 (by decide) (fun c18 => ?_) (fun c18 => ?_)
  · have c18 : ¬ (lgB (kd k) (sh k) (si k) t) = true := bI_e.mp c18
    refine lv_aload_n C.1 C.2.1 dL_rate_49 rfl (lv_at hl 2 rfl) ?_
    refine lv_iconst (v := 2) C.1 C.2.1 dL_rate_50 (by decide) ?_
    refine lv_iload C.1 C.2.1 dL_rate_51 (lv_at hl 0 rfl) ?_
    refine lv_imul C.1 C.2.1 dL_rate_53 ?_
    refine lv_topi (fun z_4 ez_4 => ?_)
    have ez_4 := ez_4.trans (show _ = nI (2 * ((ld k) - 1)) by exact pk_mul 2 ((ld k) - 1))
    subst ez_4
    refine hv_ialdN (i := 2 * ((ld k) - 1)) C I fT (by omega) (by decide) dL_rate_54 ?_
    refine lv_topi (fun z_5 ez_5 => ?_)
    have ez_5 := ez_5.trans (show _ = nI (g (ld k - 1)) by exact r1)
    subst ez_5
    exact hv_iret (v := (nI (g (ld k - 1)))) C hr I (⟨rfl, by unfold rtN; rw [if_neg (fun z => by first | exact c18 z.1 | (have := z.2; omega))]⟩) dL_rate_55 (Nat.le_of_ble_eq_true rfl) (Nat.le_of_ble_eq_true rfl)
  · have c18 : (lgB (kd k) (sh k) (si k) t) = true := Classical.byContradiction (fun z => c18 (bI_e.mpr z))
    refine lv_aload_n C.1 C.2.1 dL_rate_21 rfl (lv_at hl 2 rfl) ?_
    refine lv_iconst (v := 2) C.1 C.2.1 dL_rate_22 (by decide) ?_
    refine lv_iload C.1 C.2.1 dL_rate_23 (lv_at hl 0 rfl) ?_
    refine lv_imul C.1 C.2.1 dL_rate_25 ?_
    refine lv_topi (fun z_6 ez_6 => ?_)
    have ez_6 := ez_6.trans (show _ = nI (2 * ((ld k) - 1)) by exact pk_mul 2 ((ld k) - 1))
    subst ez_6
    refine lv_iconst (v := 1) C.1 C.2.1 dL_rate_26 (by decide) ?_
    refine lv_iadd C.1 C.2.1 dL_rate_27 ?_
    refine lv_topi (fun z_7 ez_7 => ?_)
    have ez_7 := ez_7.trans (show _ = nI ((2 * ((ld k) - 1)) + 1) by exact nI_add (2 * ((ld k) - 1)) 1)
    subst ez_7
    refine hv_ialdN (i := (2 * ((ld k) - 1)) + 1) C I fT (by omega) (by decide) dL_rate_28 ?_
    refine lv_topi (fun z_8 ez_8 => ?_)
    have ez_8 := ez_8.trans (show _ = nI (la (ld k - 1)) by exact r3)
    subst ez_8
    refine lv_aload_n C.1 C.2.1 dL_rate_29 rfl (lv_at hl 2 rfl) ?_
    refine lv_iconst (v := 2) C.1 C.2.1 dL_rate_30 (by decide) ?_
    refine lv_iload C.1 C.2.1 dL_rate_31 (lv_at hl 0 rfl) ?_
    refine lv_imul C.1 C.2.1 dL_rate_33 ?_
    refine lv_topi (fun z_9 ez_9 => ?_)
    have ez_9 := ez_9.trans (show _ = nI (2 * ((ld k) - 1)) by exact pk_mul 2 ((ld k) - 1))
    subst ez_9
    refine hv_ialdN (i := 2 * ((ld k) - 1)) C I fT (by omega) (by decide) dL_rate_34 ?_
    refine lv_topi (fun z_10 ez_10 => ?_)
    have ez_10 := ez_10.trans (show _ = nI (g (ld k - 1)) by exact r1)
    subst ez_10
    refine lv_icmp_ge (tgt := 49) C.1 C.2.1 dL_rate_35 (by decide) (fun c35 => ?_) (fun c35 => ?_)
    · have c35 : g (ld k - 1) ≤ la (ld k - 1) := (nI_leI (a := g (ld k - 1)) (b := la (ld k - 1)) (by omega) (by omega)).mp c35
      refine lv_aload_n C.1 C.2.1 dL_rate_49 rfl (lv_at hl 2 rfl) ?_
      refine lv_iconst (v := 2) C.1 C.2.1 dL_rate_50 (by decide) ?_
      refine lv_iload C.1 C.2.1 dL_rate_51 (lv_at hl 0 rfl) ?_
      refine lv_imul C.1 C.2.1 dL_rate_53 ?_
      refine lv_topi (fun z_11 ez_11 => ?_)
      have ez_11 := ez_11.trans (show _ = nI (2 * ((ld k) - 1)) by exact pk_mul 2 ((ld k) - 1))
      subst ez_11
      refine hv_ialdN (i := 2 * ((ld k) - 1)) C I fT (by omega) (by decide) dL_rate_54 ?_
      refine lv_topi (fun z_12 ez_12 => ?_)
      have ez_12 := ez_12.trans (show _ = nI (g (ld k - 1)) by exact r1)
      subst ez_12
      exact hv_iret (v := (nI (g (ld k - 1)))) C hr I (⟨rfl, by unfold rtN; rw [if_neg (fun z => by first | exact c18 z.1 | (have := z.2; omega))]⟩) dL_rate_55 (Nat.le_of_ble_eq_true rfl) (Nat.le_of_ble_eq_true rfl)
    · have c35 : ¬ (g (ld k - 1) ≤ la (ld k - 1)) := fun z => c35 ((nI_leI (a := g (ld k - 1)) (b := la (ld k - 1)) (by omega) (by omega)).mpr z)
      refine lv_aload_n C.1 C.2.1 dL_rate_38 rfl (lv_at hl 2 rfl) ?_
      refine lv_iconst (v := 2) C.1 C.2.1 dL_rate_39 (by decide) ?_
      refine lv_iload C.1 C.2.1 dL_rate_40 (lv_at hl 0 rfl) ?_
      refine lv_imul C.1 C.2.1 dL_rate_42 ?_
      refine lv_topi (fun z_13 ez_13 => ?_)
      have ez_13 := ez_13.trans (show _ = nI (2 * ((ld k) - 1)) by exact pk_mul 2 ((ld k) - 1))
      subst ez_13
      refine lv_iconst (v := 1) C.1 C.2.1 dL_rate_43 (by decide) ?_
      refine lv_iadd C.1 C.2.1 dL_rate_44 ?_
      refine lv_topi (fun z_14 ez_14 => ?_)
      have ez_14 := ez_14.trans (show _ = nI ((2 * ((ld k) - 1)) + 1) by exact nI_add (2 * ((ld k) - 1)) 1)
      subst ez_14
      refine hv_ialdN (i := (2 * ((ld k) - 1)) + 1) C I fT (by omega) (by decide) dL_rate_45 ?_
      refine lv_topi (fun z_15 ez_15 => ?_)
      have ez_15 := ez_15.trans (show _ = nI (la (ld k - 1)) by exact r3)
      subst ez_15
      refine lv_goto (tgt := 55) C.1 C.2.1 dL_rate_46 (by decide) ?_
      exact hv_iret (v := (nI (la (ld k - 1)))) C hr I (⟨rfl, by unfold rtN; rw [if_pos ⟨c18, by omega⟩]⟩) dL_rate_55 (Nat.le_of_ble_eq_true rfl) (Nat.le_of_ble_eq_true rfl)

set_option maxHeartbeats 4000000 in
set_option maxRecDepth 100000 in
theorem c_L_asks_refund (l : Launch) (hlt : l.stackTraces = false) (G : hv_G) (h : hv) (sz : Nat) {aa : Nat → Nat} {ad : Nat → Nat → Nat} {n d : Nat} {dy : Int32} {rf : Int64} {ar : AR} {fm : Nat → Int32} {po : PO} (hD : isD G (cut aa h) ad n d d dy rf ar fm po) (hA : lvA aa h) (p0 p1 : Int32) (hn : n ≤ 20) (hd : d ≤ 40) (hpo : ∀ m, (po m).length ≤ 32) (hF1 : ¬ fRf p0 p1 n d (ar 12) (ar 11) dy = 1) : hv_Xi l yL_asks wsL_asks 13 450 8 48 G h sz [.ref (ad 0 0), .int 0, .int p0, .int p1] (fun r u => (∀ x, inA aa x → u x = h x) ∧ ((fRf p0 p1 n d (ar 12) (ar 11) dy = 0 ∧ r = lowF (ar 13 (20 * p0.toNatClampNeg + p1.toNatClampNeg)) (tall (po (20 * p0.toNatClampNeg + p1.toNatClampNeg)) (fm p0.toNatClampNeg ||| vfm dy (ar 7) n)) ∧ isD G (cut aa u) ad n d d dy (rf + (lowF (ar 13 (20 * p0.toNatClampNeg + p1.toNatClampNeg)) (tall (po (20 * p0.toNatClampNeg + p1.toNatClampNeg)) (fm p0.toNatClampNeg ||| vfm dy (ar 7) n))).toInt64) (va_up ar 13 (upd (ar 13) (20 * p0.toNatClampNeg + p1.toNatClampNeg) (ar 13 (20 * p0.toNatClampNeg + p1.toNatClampNeg) - lowF (ar 13 (20 * p0.toNatClampNeg + p1.toNatClampNeg)) (tall (po (20 * p0.toNatClampNeg + p1.toNatClampNeg)) (fm p0.toNatClampNeg ||| vfm dy (ar 7) n))))) fm po) ∨ (¬ fRf p0 p1 n d (ar 12) (ar 11) dy = 0 ∧ r = -8 ∧ isD G (cut aa u) ad n d d dy rf ar fm po))) (fun _ _ => False) := by
  refine hv_enterH (y := yL_asks) (avs := [.ref (ad 0 0), .int 0, .int p0, .int p1]) (maxL := 5) (hh := [(0, 46, 47, 28)]) (Qf := fun sz => va_Qi (fun r u => (∀ x, inA aa x → u x = h x) ∧ ((fRf p0 p1 n d (ar 12) (ar 11) dy = 0 ∧ r = lowF (ar 13 (20 * p0.toNatClampNeg + p1.toNatClampNeg)) (tall (po (20 * p0.toNatClampNeg + p1.toNatClampNeg)) (fm p0.toNatClampNeg ||| vfm dy (ar 7) n)) ∧ isD G (cut aa u) ad n d d dy (rf + (lowF (ar 13 (20 * p0.toNatClampNeg + p1.toNatClampNeg)) (tall (po (20 * p0.toNatClampNeg + p1.toNatClampNeg)) (fm p0.toNatClampNeg ||| vfm dy (ar 7) n))).toInt64) (va_up ar 13 (upd (ar 13) (20 * p0.toNatClampNeg + p1.toNatClampNeg) (ar 13 (20 * p0.toNatClampNeg + p1.toNatClampNeg) - lowF (ar 13 (20 * p0.toNatClampNeg + p1.toNatClampNeg)) (tall (po (20 * p0.toNatClampNeg + p1.toNatClampNeg)) (fm p0.toNatClampNeg ||| vfm dy (ar 7) n))))) fm po) ∨ (¬ fRf p0 p1 n d (ar 12) (ar 11) dy = 0 ∧ r = -8 ∧ isD G (cut aa u) ad n d d dy rf ar fm po))) (hv_Bq G h sz) (hv_A h sz)) (XC := fun sz => hv_X G h sz (fun _ _ => False)) (by decide) rfl rfl (Nat.le_of_ble_eq_true rfl) ?_
  intro p e s m below meth c hr ht C I ls hl
  have hl : lv_has ls 5 [(0, .ref (ad 0 0)), (1, .int 0), (2, .int p0), (3, .int p1)] := hl
  refine lv_iload_n C.1 C.2.1 dL_asks_0 rfl (lv_at hl 1 rfl) ?_
  refine lv_if_ne (tgt := 13) C.1 C.2.1 dL_asks_1 (by decide) (fun z => absurd rfl z) (fun _ => ?_)
  refine lv_aload_n C.1 C.2.1 dL_asks_4 rfl (lv_at hl 0 rfl) ?_
  refine lv_iload_n C.1 C.2.1 dL_asks_5 rfl (lv_at hl 2 rfl) ?_
  refine lv_iload_n C.1 C.2.1 dL_asks_6 rfl (lv_at hl 3 rfl) ?_
  refine hv_sxk I (cut_le aa h) (vx_runV (As := [.int p0, .int p1]) (rest := []) C.fix (c_X4_refund l hlt G _ _ hD p0 p1 hn (Nat.le_refl d) hd (fun m _ => hpo m)) (cwV 2 C.2.2.2.2.1 gL_asks_X4_refund rfl rfl rfl (by decide +kernel) ⟨Nat.le_of_ble_eq_true rfl, Nat.le_of_ble_eq_true rfl⟩) (hv_preV C (I.sub (cut_le aa h)) (isD_0 hD) (r := (RX4, TX4, 6)) rfl) rfl rfl hl.1 rfl (lv_room (Nat.le_of_ble_eq_true rfl)) dL_asks_7 ⟨Nat.le_of_ble_eq_true rfl, Nat.le_of_ble_eq_true rfl⟩) (fun E ce q9 u J2 H locs hpx hf I hq9 hv9 hcl9 => ?_) (fun r u J2 H locs hp hf I => ?_)
  · obtain ⟨hle, hkp⟩ := cut_aft hA hf
    obtain ⟨rfl, hE⟩ := hpx
    have hE : ¬ fRf p0 p1 n d (ar 12) (ar 11) dy = 0 ∧ E = "java/lang/IllegalStateException" := by
      rcases hE with ⟨a, b⟩ | ⟨a, b⟩
      · exact absurd a hF1
      · exact ⟨fun z => absurd (z.symm.trans a) (by decide), b⟩
    obtain ⟨hF, rfl⟩ := hE
    refine vx_catch (name := "java/lang/IllegalStateException") C.2.2.2.1 [] ⟨0, 46, 47, 28⟩ [] (ht.trans rfl) (fun z hz => by cases hz) (by decide) (by decide) (C.ts (by decide +kernel)) (va_Nw.use rfl (C.nw (by decide +kernel))) hq9 hv9 hcl9 ?_
    refine lv_astore (lv' := [(4, .ref q9), (0, .ref (ad 0 0)), (1, .int 0), (2, .int p0), (3, .int p1)]) C.1 C.2.1 dL_asks_47 hl (by decide) rfl (fun ls hl => ?_)
    refine lv_bipush (v := (-8)) C.1 C.2.1 dL_asks_49 (by decide) ?_
    exact vx_ret (hv_iret (v := (-8)) C hr I ⟨hkp, Or.inr ⟨hF, rfl, isD_le hle hD⟩⟩ dL_asks_51 (Nat.le_of_ble_eq_true rfl) (Nat.le_of_ble_eq_true rfl))
  · obtain ⟨hle, hkp⟩ := cut_aft hA hf
    refine lv_goto (tgt := 46) C.1 C.2.1 dL_asks_10 (by decide) ?_
    refine vx_ret (hv_iret (v := r) C hr I ⟨hkp, Or.inl ?_⟩ dL_asks_46 (Nat.le_of_ble_eq_true rfl) (Nat.le_of_ble_eq_true rfl))
    exact ⟨hp.1, hp.2.1, isD_le hle hp.2.2⟩

set_option maxHeartbeats 4000000 in
set_option maxRecDepth 100000 in
theorem c_L_asks_claim (l : Launch) (hlt : l.stackTraces = false) (G : hv_G) (h : hv) (sz : Nat) {aa : Nat → Nat} {ad : Nat → Nat → Nat} {n d : Nat} {dy : Int32} {rf : Int64} {ar : AR} {fm : Nat → Int32} {po : PO} (hD : isD G (cut aa h) ad n d d dy rf ar fm po) (hA : lvA aa h) (p0 p1 : Int32) (hn : n ≤ 20) (hd : d ≤ 40) (hpo : ∀ m, (po m).length ≤ 32) (hF1 : ¬ fCl p0 p1 n d (ar 12) (ar 11) (ar 7) dy = 1) : hv_Xi l yL_asks wsL_asks 13 450 8 48 G h sz [.ref (ad 0 0), .int 1, .int p0, .int p1] (fun r u => (∀ x, inA aa x → u x = h x) ∧ ((fCl p0 p1 n d (ar 12) (ar 11) (ar 7) dy = 0 ∧ r = lowF (ar 13 (20 * p0.toNatClampNeg + p1.toNatClampNeg)) (tall (po (20 * p0.toNatClampNeg + p1.toNatClampNeg)) (-1)) ∧ isD G (cut aa u) ad n d d dy (rf + (lowF (ar 13 (20 * p0.toNatClampNeg + p1.toNatClampNeg)) (tall (po (20 * p0.toNatClampNeg + p1.toNatClampNeg)) (-1))).toInt64) (va_up ar 13 (upd (ar 13) (20 * p0.toNatClampNeg + p1.toNatClampNeg) (ar 13 (20 * p0.toNatClampNeg + p1.toNatClampNeg) - lowF (ar 13 (20 * p0.toNatClampNeg + p1.toNatClampNeg)) (tall (po (20 * p0.toNatClampNeg + p1.toNatClampNeg)) (-1))))) fm po) ∨ (¬ fCl p0 p1 n d (ar 12) (ar 11) (ar 7) dy = 0 ∧ r = -8 ∧ isD G (cut aa u) ad n d d dy rf ar fm po))) (fun _ _ => False) := by
  refine hv_enterH (y := yL_asks) (avs := [.ref (ad 0 0), .int 1, .int p0, .int p1]) (maxL := 5) (hh := [(0, 46, 47, 28)]) (Qf := fun sz => va_Qi (fun r u => (∀ x, inA aa x → u x = h x) ∧ ((fCl p0 p1 n d (ar 12) (ar 11) (ar 7) dy = 0 ∧ r = lowF (ar 13 (20 * p0.toNatClampNeg + p1.toNatClampNeg)) (tall (po (20 * p0.toNatClampNeg + p1.toNatClampNeg)) (-1)) ∧ isD G (cut aa u) ad n d d dy (rf + (lowF (ar 13 (20 * p0.toNatClampNeg + p1.toNatClampNeg)) (tall (po (20 * p0.toNatClampNeg + p1.toNatClampNeg)) (-1))).toInt64) (va_up ar 13 (upd (ar 13) (20 * p0.toNatClampNeg + p1.toNatClampNeg) (ar 13 (20 * p0.toNatClampNeg + p1.toNatClampNeg) - lowF (ar 13 (20 * p0.toNatClampNeg + p1.toNatClampNeg)) (tall (po (20 * p0.toNatClampNeg + p1.toNatClampNeg)) (-1))))) fm po) ∨ (¬ fCl p0 p1 n d (ar 12) (ar 11) (ar 7) dy = 0 ∧ r = -8 ∧ isD G (cut aa u) ad n d d dy rf ar fm po))) (hv_Bq G h sz) (hv_A h sz)) (XC := fun sz => hv_X G h sz (fun _ _ => False)) (by decide) rfl rfl (Nat.le_of_ble_eq_true rfl) ?_
  intro p e s m below meth c hr ht C I ls hl
  have hl : lv_has ls 5 [(0, .ref (ad 0 0)), (1, .int 1), (2, .int p0), (3, .int p1)] := hl
  refine lv_iload_n C.1 C.2.1 dL_asks_0 rfl (lv_at hl 1 rfl) ?_
  refine lv_if_ne (tgt := 13) C.1 C.2.1 dL_asks_1 (by decide) (fun _ => ?_) (fun z => absurd z (by decide))
  refine lv_iload_n C.1 C.2.1 dL_asks_13 rfl (lv_at hl 1 rfl) ?_
  refine lv_iconst (v := 1) C.1 C.2.1 dL_asks_14 (by decide) ?_
  refine lv_icmp_ne (tgt := 27) C.1 C.2.1 dL_asks_15 (by decide) (fun z => absurd rfl z) (fun _ => ?_)
  refine lv_aload_n C.1 C.2.1 dL_asks_18 rfl (lv_at hl 0 rfl) ?_
  refine lv_iload_n C.1 C.2.1 dL_asks_19 rfl (lv_at hl 2 rfl) ?_
  refine lv_iload_n C.1 C.2.1 dL_asks_20 rfl (lv_at hl 3 rfl) ?_
  refine hv_sxk I (cut_le aa h) (vx_runV (As := [.int p0, .int p1]) (rest := []) C.fix (c_X4_claim l hlt G _ _ hD p0 p1 hn (Nat.le_refl d) hd (fun m _ => hpo m)) (cwV 2 C.2.2.2.2.1 gL_asks_X4_claim rfl rfl rfl (by decide +kernel) ⟨Nat.le_of_ble_eq_true rfl, Nat.le_of_ble_eq_true rfl⟩) (hv_preV C (I.sub (cut_le aa h)) (isD_0 hD) (r := (RX4, TX4, 6)) rfl) rfl rfl hl.1 rfl (lv_room (Nat.le_of_ble_eq_true rfl)) dL_asks_21 ⟨Nat.le_of_ble_eq_true rfl, Nat.le_of_ble_eq_true rfl⟩) (fun E ce q9 u J2 H locs hpx hf I hq9 hv9 hcl9 => ?_) (fun r u J2 H locs hp hf I => ?_)
  · obtain ⟨hle, hkp⟩ := cut_aft hA hf
    obtain ⟨rfl, hE⟩ := hpx
    have hE : ¬ fCl p0 p1 n d (ar 12) (ar 11) (ar 7) dy = 0 ∧ E = "java/lang/IllegalStateException" := by
      rcases hE with ⟨a, b⟩ | ⟨a, b⟩
      · exact absurd a hF1
      · exact ⟨fun z => absurd (z.symm.trans a) (by decide), b⟩
    obtain ⟨hF, rfl⟩ := hE
    refine vx_catch (name := "java/lang/IllegalStateException") C.2.2.2.1 [] ⟨0, 46, 47, 28⟩ [] (ht.trans rfl) (fun z hz => by cases hz) (by decide) (by decide) (C.ts (by decide +kernel)) (va_Nw.use rfl (C.nw (by decide +kernel))) hq9 hv9 hcl9 ?_
    refine lv_astore (lv' := [(4, .ref q9), (0, .ref (ad 0 0)), (1, .int 1), (2, .int p0), (3, .int p1)]) C.1 C.2.1 dL_asks_47 hl (by decide) rfl (fun ls hl => ?_)
    refine lv_bipush (v := (-8)) C.1 C.2.1 dL_asks_49 (by decide) ?_
    exact vx_ret (hv_iret (v := (-8)) C hr I ⟨hkp, Or.inr ⟨hF, rfl, isD_le hle hD⟩⟩ dL_asks_51 (Nat.le_of_ble_eq_true rfl) (Nat.le_of_ble_eq_true rfl))
  · obtain ⟨hle, hkp⟩ := cut_aft hA hf
    refine lv_goto (tgt := 46) C.1 C.2.1 dL_asks_24 (by decide) ?_
    refine vx_ret (hv_iret (v := r) C hr I ⟨hkp, Or.inl ?_⟩ dL_asks_46 (Nat.le_of_ble_eq_true rfl) (Nat.le_of_ble_eq_true rfl))
    exact ⟨hp.1, hp.2.1, isD_le hle hp.2.2⟩

set_option maxHeartbeats 4000000 in
set_option maxRecDepth 100000 in
theorem c_L_asks_setShares (l : Launch) (hlt : l.stackTraces = false) (G : hv_G) (h : hv) (sz : Nat) {aa : Nat → Nat} {ad : Nat → Nat → Nat} {n d : Nat} {dy : Int32} {rf : Int64} {ar : AR} {fm : Nat → Int32} {po : PO} (hD : isD G (cut aa h) ad n d d dy rf ar fm po) (hA : lvA aa h) (p0 p1 : Int32) (hn : n ≤ 20) (hF1 : ¬ fSs p0 p1 n (ar 6) = 1) (hF2 : ¬ fSs p0 p1 n (ar 6) = 2) : hv_Xi l yL_asks wsL_asks 13 450 2 12 G h sz [.ref (ad 0 0), .int 2, .int p0, .int p1] (fun r u => (∀ x, inA aa x → u x = h x) ∧ ((fSs p0 p1 n (ar 6) = 0 ∧ r = ar 6 p0.toNatClampNeg ∧ isD G (cut aa u) ad n d d dy rf (va_up ar 6 (upd (ar 6) p0.toNatClampNeg p1)) fm po) ∨ (¬ fSs p0 p1 n (ar 6) = 0 ∧ r = -8 ∧ isD G (cut aa u) ad n d d dy rf ar fm po))) (fun _ _ => False) := by
  refine hv_enterH (y := yL_asks) (avs := [.ref (ad 0 0), .int 2, .int p0, .int p1]) (maxL := 5) (hh := [(0, 46, 47, 28)]) (Qf := fun sz => va_Qi (fun r u => (∀ x, inA aa x → u x = h x) ∧ ((fSs p0 p1 n (ar 6) = 0 ∧ r = ar 6 p0.toNatClampNeg ∧ isD G (cut aa u) ad n d d dy rf (va_up ar 6 (upd (ar 6) p0.toNatClampNeg p1)) fm po) ∨ (¬ fSs p0 p1 n (ar 6) = 0 ∧ r = -8 ∧ isD G (cut aa u) ad n d d dy rf ar fm po))) (hv_Bq G h sz) (hv_A h sz)) (XC := fun sz => hv_X G h sz (fun _ _ => False)) (by decide) rfl rfl (Nat.le_of_ble_eq_true rfl) ?_
  intro p e s m below meth c hr ht C I ls hl
  have hl : lv_has ls 5 [(0, .ref (ad 0 0)), (1, .int 2), (2, .int p0), (3, .int p1)] := hl
  refine lv_iload_n C.1 C.2.1 dL_asks_0 rfl (lv_at hl 1 rfl) ?_
  refine lv_if_ne (tgt := 13) C.1 C.2.1 dL_asks_1 (by decide) (fun _ => ?_) (fun z => absurd z (by decide))
  refine lv_iload_n C.1 C.2.1 dL_asks_13 rfl (lv_at hl 1 rfl) ?_
  refine lv_iconst (v := 1) C.1 C.2.1 dL_asks_14 (by decide) ?_
  refine lv_icmp_ne (tgt := 27) C.1 C.2.1 dL_asks_15 (by decide) (fun _ => ?_) (fun z => absurd z (by decide))
  refine lv_iload_n C.1 C.2.1 dL_asks_27 rfl (lv_at hl 1 rfl) ?_
  refine lv_iconst (v := 2) C.1 C.2.1 dL_asks_28 (by decide) ?_
  refine lv_icmp_ne (tgt := 41) C.1 C.2.1 dL_asks_29 (by decide) (fun z => absurd rfl z) (fun _ => ?_)
  refine lv_aload_n C.1 C.2.1 dL_asks_32 rfl (lv_at hl 0 rfl) ?_
  refine lv_iload_n C.1 C.2.1 dL_asks_33 rfl (lv_at hl 2 rfl) ?_
  refine lv_iload_n C.1 C.2.1 dL_asks_34 rfl (lv_at hl 3 rfl) ?_
  refine hv_sxk I (cut_le aa h) (vx_runV (As := [.int p0, .int p1]) (rest := []) C.fix (c_X4_setShares l hlt G _ _ hD p0 p1 hn) (cwV 2 C.2.2.2.2.1 gL_asks_X4_setShares rfl rfl rfl (by decide +kernel) ⟨Nat.le_of_ble_eq_true rfl, Nat.le_of_ble_eq_true rfl⟩) (hv_preV C (I.sub (cut_le aa h)) (isD_0 hD) (r := (RX4, TX4, 6)) rfl) rfl rfl hl.1 rfl (lv_room (Nat.le_of_ble_eq_true rfl)) dL_asks_35 ⟨Nat.le_of_ble_eq_true rfl, Nat.le_of_ble_eq_true rfl⟩) (fun E ce q9 u J2 H locs hpx hf I hq9 hv9 hcl9 => ?_) (fun r u J2 H locs hp hf I => ?_)
  · obtain ⟨hle, hkp⟩ := cut_aft hA hf
    obtain ⟨rfl, hE⟩ := hpx
    have hE : ¬ fSs p0 p1 n (ar 6) = 0 ∧ E = "java/lang/IllegalStateException" := by
      rcases hE with ⟨a, b⟩ | ⟨a, b⟩ | ⟨a, b⟩
      · exact absurd a hF1
      · exact absurd a hF2
      · exact ⟨fun z => absurd (z.symm.trans a) (by decide), b⟩
    obtain ⟨hF, rfl⟩ := hE
    refine vx_catch (name := "java/lang/IllegalStateException") C.2.2.2.1 [] ⟨0, 46, 47, 28⟩ [] (ht.trans rfl) (fun z hz => by cases hz) (by decide) (by decide) (C.ts (by decide +kernel)) (va_Nw.use rfl (C.nw (by decide +kernel))) hq9 hv9 hcl9 ?_
    refine lv_astore (lv' := [(4, .ref q9), (0, .ref (ad 0 0)), (1, .int 2), (2, .int p0), (3, .int p1)]) C.1 C.2.1 dL_asks_47 hl (by decide) rfl (fun ls hl => ?_)
    refine lv_bipush (v := (-8)) C.1 C.2.1 dL_asks_49 (by decide) ?_
    exact vx_ret (hv_iret (v := (-8)) C hr I ⟨hkp, Or.inr ⟨hF, rfl, isD_le hle hD⟩⟩ dL_asks_51 (Nat.le_of_ble_eq_true rfl) (Nat.le_of_ble_eq_true rfl))
  · obtain ⟨hle, hkp⟩ := cut_aft hA hf
    refine lv_goto (tgt := 46) C.1 C.2.1 dL_asks_38 (by decide) ?_
    refine vx_ret (hv_iret (v := r) C hr I ⟨hkp, Or.inl ?_⟩ dL_asks_46 (Nat.le_of_ble_eq_true rfl) (Nat.le_of_ble_eq_true rfl))
    exact ⟨hp.1, hp.2.1, isD_le hle hp.2.2⟩

set_option maxHeartbeats 4000000 in
set_option maxRecDepth 100000 in
theorem c_L_asks_pay (l : Launch) (hlt : l.stackTraces = false) (G : hv_G) (h : hv) (sz : Nat) {aa : Nat → Nat} {ad : Nat → Nat → Nat} {n d : Nat} {dy : Int32} {rf : Int64} {ar : AR} {fm : Nat → Int32} {po : PO} (hD : isD G (cut aa h) ad n d d dy rf ar fm po) (hA : lvA aa h) (p0 p1 : Int32) (hn : n ≤ 20) (hd : d ≤ 40) (gz0 : d < 40 → ∀ j, j < 20 → ar 12 (20 * d + j) = 0) (hpo : ∀ m, (po m).length ≤ 32) (hgp : ¬ iw p0 1 1000 = 0 → ∀ k, k < n → (ar 6 k ≤ 0 ↔ ar 6 k * p0 = 0)) (hF1 : ¬ fPy p0 d (l_sum (ar 6) n) = 1) : hv_Xi l yL_asks wsL_asks 13 450 503 2332 G h sz [.ref (ad 0 0), .int 3, .int p0, .int p1] (fun r u => (∀ x, inA aa x → u x = h x) ∧ ((fPy p0 d (l_sum (ar 6) n) = 0 ∧ r = nI d ∧ ∃ ad2, ad2 0 0 = ad 0 0 ∧ isD G (cut aa u) ad2 n (d + 1) (d + 1) dy rf (payDv ar dy d p0 (heP dy n ar d p0 (vfm dy (ar 7) n)) n) (va_up fm d (vfm dy (ar 7) n)) (poS po d (mkS dy n ar d p0 po) n)) ∨ (¬ fPy p0 d (l_sum (ar 6) n) = 0 ∧ r = -8 ∧ isD G (cut aa u) ad n d d dy rf ar fm po))) (fun _ _ => False) := by
  refine hv_enterH (y := yL_asks) (avs := [.ref (ad 0 0), .int 3, .int p0, .int p1]) (maxL := 5) (hh := [(0, 46, 47, 28)]) (Qf := fun sz => va_Qi (fun r u => (∀ x, inA aa x → u x = h x) ∧ ((fPy p0 d (l_sum (ar 6) n) = 0 ∧ r = nI d ∧ ∃ ad2, ad2 0 0 = ad 0 0 ∧ isD G (cut aa u) ad2 n (d + 1) (d + 1) dy rf (payDv ar dy d p0 (heP dy n ar d p0 (vfm dy (ar 7) n)) n) (va_up fm d (vfm dy (ar 7) n)) (poS po d (mkS dy n ar d p0 po) n)) ∨ (¬ fPy p0 d (l_sum (ar 6) n) = 0 ∧ r = -8 ∧ isD G (cut aa u) ad n d d dy rf ar fm po))) (hv_Bq G h sz) (hv_A h sz)) (XC := fun sz => hv_X G h sz (fun _ _ => False)) (by decide) rfl rfl (Nat.le_of_ble_eq_true rfl) ?_
  intro p e s m below meth c hr ht C I ls hl
  have hl : lv_has ls 5 [(0, .ref (ad 0 0)), (1, .int 3), (2, .int p0), (3, .int p1)] := hl
  refine lv_iload_n C.1 C.2.1 dL_asks_0 rfl (lv_at hl 1 rfl) ?_
  refine lv_if_ne (tgt := 13) C.1 C.2.1 dL_asks_1 (by decide) (fun _ => ?_) (fun z => absurd z (by decide))
  refine lv_iload_n C.1 C.2.1 dL_asks_13 rfl (lv_at hl 1 rfl) ?_
  refine lv_iconst (v := 1) C.1 C.2.1 dL_asks_14 (by decide) ?_
  refine lv_icmp_ne (tgt := 27) C.1 C.2.1 dL_asks_15 (by decide) (fun _ => ?_) (fun z => absurd z (by decide))
  refine lv_iload_n C.1 C.2.1 dL_asks_27 rfl (lv_at hl 1 rfl) ?_
  refine lv_iconst (v := 2) C.1 C.2.1 dL_asks_28 (by decide) ?_
  refine lv_icmp_ne (tgt := 41) C.1 C.2.1 dL_asks_29 (by decide) (fun _ => ?_) (fun z => absurd z (by decide))
  refine lv_aload_n C.1 C.2.1 dL_asks_41 rfl (lv_at hl 0 rfl) ?_
  refine lv_iload_n C.1 C.2.1 dL_asks_42 rfl (lv_at hl 2 rfl) ?_
  refine hv_sxk I (cut_le aa h) (vx_runV (As := [.int p0]) (rest := []) C.fix (c_X4_pay l hlt G _ _ hD p0 hn hd gz0 hpo hgp) (cwV 1 C.2.2.2.2.1 gL_asks_X4_pay rfl rfl rfl (by decide +kernel) ⟨Nat.le_of_ble_eq_true rfl, Nat.le_of_ble_eq_true rfl⟩) (hv_preV C (I.sub (cut_le aa h)) (isD_0 hD) (r := (RX4, TX4, 6)) rfl) rfl rfl hl.1 rfl (lv_room (Nat.le_of_ble_eq_true rfl)) dL_asks_43 ⟨Nat.le_of_ble_eq_true rfl, Nat.le_of_ble_eq_true rfl⟩) (fun E ce q9 u J2 H locs hpx hf I hq9 hv9 hcl9 => ?_) (fun r u J2 H locs hp hf I => ?_)
  · obtain ⟨hle, hkp⟩ := cut_aft hA hf
    obtain ⟨rfl, hE⟩ := hpx
    have hE : ¬ fPy p0 d (l_sum (ar 6) n) = 0 ∧ E = "java/lang/IllegalStateException" := by
      rcases hE with ⟨a, b⟩ | ⟨a, b⟩
      · exact absurd a hF1
      · exact ⟨fun z => absurd (z.symm.trans a) (by decide), b⟩
    obtain ⟨hF, rfl⟩ := hE
    refine vx_catch (name := "java/lang/IllegalStateException") C.2.2.2.1 [] ⟨0, 46, 47, 28⟩ [] (ht.trans rfl) (fun z hz => by cases hz) (by decide) (by decide) (C.ts (by decide +kernel)) (va_Nw.use rfl (C.nw (by decide +kernel))) hq9 hv9 hcl9 ?_
    refine lv_astore (lv' := [(4, .ref q9), (0, .ref (ad 0 0)), (1, .int 3), (2, .int p0), (3, .int p1)]) C.1 C.2.1 dL_asks_47 hl (by decide) rfl (fun ls hl => ?_)
    refine lv_bipush (v := (-8)) C.1 C.2.1 dL_asks_49 (by decide) ?_
    exact vx_ret (hv_iret (v := (-8)) C hr I ⟨hkp, Or.inr ⟨hF, rfl, isD_le hle hD⟩⟩ dL_asks_51 (Nat.le_of_ble_eq_true rfl) (Nat.le_of_ble_eq_true rfl))
  · obtain ⟨hle, hkp⟩ := cut_aft hA hf
    refine vx_ret (hv_iret (v := r) C hr I ⟨hkp, Or.inl ?_⟩ dL_asks_46 (Nat.le_of_ble_eq_true rfl) (Nat.le_of_ble_eq_true rfl))
    obtain ⟨a1, a2, ad2, a3, a4⟩ := hp
    exact ⟨a1, a2, ad2, a3, isD_le hle a4⟩
