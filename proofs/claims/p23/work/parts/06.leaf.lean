section HVN
variable {p : Program} {l : Launch} {e : Env} {R : Room} {s : State} {m : MethodId} {args : Array Value} {below : List Frame} {meth : Method} {c : Code} {H : Heap} {locs : List Loc} {cells slots : Nat} {Q : State → Prop}
variable {cc : ByteArray} {pc : Nat} {ls : Array Slot} {rest : List Value} {a : Nat} {G : hv_G} {h h0 : hv} {own : String} {nL : Nat} {Ts : List Cond}
theorem hv_ialdN (C : hv_C p s m args meth c own cc nL Ts G h0) (I : hv_I G h0 s h H locs) {n : Nat} {f : Nat → Int32} (ha : h a = some (.inl (G.2.1 0, n, .inl f))) {i : Nat} (hi : i < n) (hn : n < 2 ^ 31) (hdg : decode cc pc = .ok (.iaload, 1))
    (kk : W p l e R s m args below meth c H locs cells slots Q (F0 m (pc + 1) ls (.int (f i) :: rest))) : W p l e R s m args below meth c H locs cells slots Q (F0 m pc ls (.int (nI i) :: .ref a :: rest)) :=
  hv_iald C I ha (vp_in_nI hi hn) hdg (by rw [nI_clamp (by omega)]; exact kk)
theorem hv_paldN (C : hv_C p s m args meth c own cc nL Ts G h0) (I : hv_I G h0 s h H locs) {n : Nat} {f : Nat → Option Nat} (ha : h a = some (.inl (G.2.1 2, n, .inr (.inr (.inr (.inr f)))))) {i : Nat} (hi : i < n) (hn : n < 2 ^ 31) (hdg : decode cc pc = .ok (.aaload, 1))
    (kk : W p l e R s m args below meth c H locs cells slots Q (F0 m (pc + 1) ls (va_rf (f i) :: rest))) : W p l e R s m args below meth c H locs cells slots Q (F0 m pc ls (.int (nI i) :: .ref a :: rest)) :=
  hv_pald C I ha (vp_in_nI hi hn) hdg (by rw [nI_clamp (by omega)]; exact kk)
theorem hv_iastN (C : hv_C p s m args meth c own cc nL Ts G h0) (I : hv_I G h0 s h H locs) {n : Nat} {f : Nat → Int32} (ha : h a = some (.inl (G.2.1 0, n, .inl f))) {i : Nat} {x : Int32} (hi : i < n) (hn : n < 2 ^ 31) (hdg : decode cc pc = .ok (.iastore, 1))
    (kk : ∀ (H1 : Heap) (locs1 : List Loc), hv_I G h0 s (hv_up h a (.inl (G.2.1 0, n, .inl (upd f i x)))) H1 locs1 → W p l e R s m args below meth c H1 locs1 cells slots Q (F0 m (pc + 1) ls rest)) : W p l e R s m args below meth c H locs cells slots Q (F0 m pc ls (.int x :: .int (nI i) :: .ref a :: rest)) :=
  hv_iast C I ha (vp_in_nI hi hn) hdg (by rw [nI_clamp (by omega)]; exact kk)
end HVN
/-! ===== leaves: numbers within bounds, portions, holders ===== -/
def iw (n a b : Int32) : Int32 := if n < a then 0 else if b < n then 0 else 1
def pt_tax (am ra ne fo : Int32) : Int32 := (am.toInt64 * (if ne &&& fo = ne then ra else 30).toInt64 / 100).toInt32
def hf (td fe : Int32) : Int32 := if fe < td then 0 else 1
def hlg (kd sh es td : Int32) : Int32 := if ¬ kd = 1 then 0 else if sh < 100000 then 0 else if es = -1 then 0 else if td - es < 365 then 0 else 1
def pts20 (f : Nat → Int32) (i : Int32) : Int32 := if i < 0 then 0 else if (20 : Int32) ≤ i then 0 else f i.toNatClampNeg
def sinceF (sh es td : Int32) : Int32 := if 100000 ≤ sh then (if ¬ es = -1 then es else td) else -1
def prp (am pa al : Int32) : Int32 := if ¬ al = 0 then (am.toInt64 * pa.toInt64 / al.toInt64).toInt32 else 0
def taxL (ce : Int64) (ra : Int32) : Int32 := (ce * ra.toInt64 / 100).toInt32
theorem iw_bool (n a b : Int32) : narrow .boolean (.int (iw n a b)) = .int (iw n a b) := by unfold iw; split <;> (try split) <;> rfl
theorem hf_bool (a b : Int32) : narrow .boolean (.int (hf a b)) = .int (hf a b) := by unfold hf; split <;> rfl
theorem hlg_bool (a b c d : Int32) : narrow .boolean (.int (hlg a b c d)) = .int (hlg a b c d) := by unfold hlg; split <;> (try split) <;> (try split) <;> (try split) <;> rfl
theorem i64_ne0 {x : Int32} (h : ¬ x = 0) : ¬ x.toInt64 = 0 := by
  intro e
  apply h
  have := congrArg Int64.toInt32 e
  simpa using this
theorem hv_in (n : Nat) {x : Int32} (hn : n < 2 ^ 31) (h1 : ¬ x < 0) (h2 : ¬ nI n ≤ x) : vp_in x n := by
  obtain ⟨j, hj, rfl⟩ := nI_of h1
  exact vp_in_nI (Nat.lt_of_not_le (fun z => h2 (nI_le z hj))) hn
theorem hv_leN {n i : Nat} (hn : n < 2 ^ 31) (hi : i < 2 ^ 31) (c : nI n ≤ nI i) : n ≤ i := (nI_leI hn hi).mp c
theorem hv_ltN {n i : Nat} (hn : n < 2 ^ 31) (hi : i < 2 ^ 31) (c : ¬ nI n ≤ nI i) : i < n := Nat.lt_of_not_le (fun z => c ((nI_leI hn hi).mpr z))
set_option maxHeartbeats 4000000 in
set_option maxRecDepth 100000 in
theorem c_X4_isWithin (l : Launch) (G : hv_G) (h : hv) (sz : Nat) (a b d : Int32) : hv_Mi l yX4_isWithin wsX4_isWithin 0 0 0 0 G h sz [.int a, .int b, .int d] (fun r u => u = h ∧ r = iw a b d) := by
  refine hv_enter (y := yX4_isWithin) (avs := [.int a, .int b, .int d]) (maxL := 3) (Qf := fun sz => va_Qi (fun r u => u = h ∧ r = iw a b d) (hv_Bq G h sz) (hv_A h sz)) (by decide) rfl rfl (Nat.le_of_ble_eq_true rfl) ?_
  intro p e s m below meth c hr hnm C I ls hl
  have hl : lv_has ls 3 [(0, .int a), (1, .int b), (2, .int d)] := hl
  refine lv_iload_n C.1 C.2.1 dX4_isWithin_0 rfl (lv_at hl 0 rfl) ?_
  refine lv_iload_n C.1 C.2.1 dX4_isWithin_1 rfl (lv_at hl 1 rfl) ?_
  refine lv_icmp_lt (tgt := 14) C.1 C.2.1 dX4_isWithin_2 (by decide) (fun c2 => ?_) (fun c2 => ?_)
  · refine lv_iconst (v := 0) C.1 C.2.1 dX4_isWithin_14 (by decide) ?_
    exact hv_zret (v := 0) C hr I rfl (⟨rfl, by unfold iw; simp [c2]⟩) dX4_isWithin_15 (Nat.le_of_ble_eq_true rfl) (Nat.le_of_ble_eq_true rfl)
  · refine lv_iload_n C.1 C.2.1 dX4_isWithin_5 rfl (lv_at hl 0 rfl) ?_
    refine lv_iload_n C.1 C.2.1 dX4_isWithin_6 rfl (lv_at hl 2 rfl) ?_
    refine lv_icmp_gt (tgt := 14) C.1 C.2.1 dX4_isWithin_7 (by decide) (fun c7 => ?_) (fun c7 => ?_)
    · refine lv_iconst (v := 0) C.1 C.2.1 dX4_isWithin_14 (by decide) ?_
      exact hv_zret (v := 0) C hr I rfl (⟨rfl, by unfold iw; simp [c2, c7]⟩) dX4_isWithin_15 (Nat.le_of_ble_eq_true rfl) (Nat.le_of_ble_eq_true rfl)
    · refine lv_iconst (v := 1) C.1 C.2.1 dX4_isWithin_10 (by decide) ?_
      refine lv_goto (tgt := 15) C.1 C.2.1 dX4_isWithin_11 (by decide) ?_
      exact hv_zret (v := 1) C hr I rfl (⟨rfl, by unfold iw; simp [c2, c7]⟩) dX4_isWithin_15 (Nat.le_of_ble_eq_true rfl) (Nat.le_of_ble_eq_true rfl)

set_option maxHeartbeats 4000000 in
set_option maxRecDepth 100000 in
theorem c_X4_isLand (l : Launch) (G : hv_G) (h : hv) (sz : Nat) (a : Int32) : hv_Mi l yX4_isLand wsX4_isLand 1 22 0 0 G h sz [.int a] (fun r u => u = h ∧ r = iw a 0 5) := by
  refine hv_enter (y := yX4_isLand) (avs := [.int a]) (maxL := 1) (Qf := fun sz => va_Qi (fun r u => u = h ∧ r = iw a 0 5) (hv_Bq G h sz) (hv_A h sz)) (by decide) rfl rfl (Nat.le_of_ble_eq_true rfl) ?_
  intro p e s m below meth c hr hnm C I ls hl
  have hl : lv_has ls 1 [(0, .int a)] := hl
  refine lv_iload_n C.1 C.2.1 dX4_isLand_0 rfl (lv_at hl 0 rfl) ?_
  refine lv_iconst (v := 0) C.1 C.2.1 dX4_isLand_1 (by decide) ?_
  refine lv_iconst (v := 5) C.1 C.2.1 dX4_isLand_2 (by decide) ?_
  refine hv_ki I (va_runS (As := [.int a, .int 0, .int 5]) (rest := []) C.fix (c_X4_isWithin l G h _ a 0 5) (va_cwS 3 C.2.2.2.2.1 gX4_isLand_X4_isWithin rfl rfl rfl (by decide +kernel) ⟨Nat.le_of_ble_eq_true rfl, Nat.le_of_ble_eq_true rfl⟩) (hv_preS C I) rfl rfl hl.1 rfl (lv_room (Nat.le_of_ble_eq_true rfl)) dX4_isLand_3 ⟨Nat.le_of_ble_eq_true rfl, Nat.le_of_ble_eq_true rfl⟩) (fun ru_1 u_1 H locs pu_1 I => ?_)
  obtain ⟨e1, e2⟩ := pu_1; have e1 := e1.symm; subst e1; have e2 := e2.symm; subst e2
  exact hv_zret (v := (iw a 0 5)) C hr I (iw_bool _ _ _) (⟨rfl, rfl⟩) dX4_isLand_6 (Nat.le_of_ble_eq_true rfl) (Nat.le_of_ble_eq_true rfl)

set_option maxHeartbeats 4000000 in
set_option maxRecDepth 100000 in
theorem c_X4_formOf (l : Launch) (G : hv_G) (h : hv) (sz : Nat) (a : Int32) : hv_Mi l yX4_formOf wsX4_formOf 0 0 0 0 G h sz [.int a] (fun r u => u = h ∧ r = 1 <<< (a &&& 31)) := by
  refine hv_enter (y := yX4_formOf) (avs := [.int a]) (maxL := 1) (Qf := fun sz => va_Qi (fun r u => u = h ∧ r = 1 <<< (a &&& 31)) (hv_Bq G h sz) (hv_A h sz)) (by decide) rfl rfl (Nat.le_of_ble_eq_true rfl) ?_
  intro p e s m below meth c hr hnm C I ls hl
  have hl : lv_has ls 1 [(0, .int a)] := hl
  refine lv_iconst (v := 1) C.1 C.2.1 dX4_formOf_0 (by decide) ?_
  refine lv_iload_n C.1 C.2.1 dX4_formOf_1 rfl (lv_at hl 0 rfl) ?_
  refine lv_ishl C.1 C.2.1 dX4_formOf_2 ?_
  exact hv_iret (v := (1 <<< (a &&& 31))) C hr I (⟨rfl, rfl⟩) dX4_formOf_3 (Nat.le_of_ble_eq_true rfl) (Nat.le_of_ble_eq_true rfl)

set_option maxHeartbeats 4000000 in
set_option maxRecDepth 100000 in
theorem c_X4_proportion (l : Launch) (G : hv_G) (h : hv) (sz : Nat) (a b d : Int32) : hv_Mi l yX4_proportion wsX4_proportion 0 0 0 0 G h sz [.int a, .int b, .int d] (fun r u => u = h ∧ r = prp a b d) := by
  refine hv_enter (y := yX4_proportion) (avs := [.int a, .int b, .int d]) (maxL := 3) (Qf := fun sz => va_Qi (fun r u => u = h ∧ r = prp a b d) (hv_Bq G h sz) (hv_A h sz)) (by decide) rfl rfl (Nat.le_of_ble_eq_true rfl) ?_
  intro p e s m below meth c hr hnm C I ls hl
  have hl : lv_has ls 3 [(0, .int a), (1, .int b), (2, .int d)] := hl
  refine lv_iload_n C.1 C.2.1 dX4_proportion_0 rfl (lv_at hl 2 rfl) ?_
  refine lv_if_ne (tgt := 8) C.1 C.2.1 dX4_proportion_1 (by decide) (fun c1 => ?_) (fun c1 => ?_)
  · refine lv_iload_n C.1 C.2.1 dX4_proportion_8 rfl (lv_at hl 0 rfl) ?_
    refine lv_i2l C.1 C.2.1 dX4_proportion_9 rfl ?_
    refine lv_iload_n C.1 C.2.1 dX4_proportion_10 rfl (lv_at hl 1 rfl) ?_
    refine lv_i2l C.1 C.2.1 dX4_proportion_11 rfl ?_
    refine lv_lmul C.1 C.2.1 dX4_proportion_12 ?_
    refine lv_iload_n C.1 C.2.1 dX4_proportion_13 rfl (lv_at hl 2 rfl) ?_
    refine lv_i2l C.1 C.2.1 dX4_proportion_14 rfl ?_
    refine lv_ldiv C.1 C.2.1 dX4_proportion_15 (i64_ne0 c1) ?_
    refine lv_l2i C.1 C.2.1 dX4_proportion_16 rfl ?_
    exact hv_iret (v := (((a.toInt64 * b.toInt64) / d.toInt64).toInt32)) C hr I (⟨rfl, by unfold prp; simp [c1]⟩) dX4_proportion_17 (Nat.le_of_ble_eq_true rfl) (Nat.le_of_ble_eq_true rfl)
  · refine lv_iconst (v := 0) C.1 C.2.1 dX4_proportion_4 (by decide) ?_
    refine lv_goto (tgt := 17) C.1 C.2.1 dX4_proportion_5 (by decide) ?_
    exact hv_iret (v := 0) C hr I (⟨rfl, by unfold prp; simp [c1]⟩) dX4_proportion_17 (Nat.le_of_ble_eq_true rfl) (Nat.le_of_ble_eq_true rfl)

set_option maxHeartbeats 4000000 in
set_option maxRecDepth 100000 in
theorem c_X3_tax (l : Launch) (G : hv_G) (h : hv) (sz : Nat) {a : Nat} {am ra ne : Int32} (fa : h a = some (.inr (4, [.int am, .int ra, .int ne]))) (p0 : Int32) : hv_Mi l yX3_tax wsX3_tax 0 0 0 0 G h sz [.ref a, .int p0] (fun r u => u = h ∧ r = pt_tax am ra ne p0) := by
  have wX3 : ∀ w ∈ wsX30, w ∈ wsX3_tax := by decide +kernel
  refine hv_enter (y := yX3_tax) (avs := [.ref a, .int p0]) (maxL := 3) (Qf := fun sz => va_Qi (fun r u => u = h ∧ r = pt_tax am ra ne p0) (hv_Bq G h sz) (hv_A h sz)) (by decide) rfl rfl (Nat.le_of_ble_eq_true rfl) ?_
  intro p e s m below meth c hr hnm C I ls hl
  have hl : lv_has ls 3 [(0, .ref a), (1, .int p0)] := hl
  refine lv_aload_n C.1 C.2.1 dX3_tax_0 rfl (lv_at hl 0 rfl) ?_
  refine hv_get (ci := 4) (Cn := RX3) (T := TX3) (N := 3) (ref := "DividendDesk$Portion") (v := .int ne) C I fa wX3 rfl 2 (by decide) (by decide +kernel) (fun _ h9 => h9) rfl dX3_tax_1 ?_
  refine lv_iload_n C.1 C.2.1 dX3_tax_4 rfl (lv_at hl 1 rfl) ?_
  refine lv_iand C.1 C.2.1 dX3_tax_5 ?_
  refine lv_aload_n C.1 C.2.1 dX3_tax_6 rfl (lv_at hl 0 rfl) ?_
  refine hv_get (ci := 4) (Cn := RX3) (T := TX3) (N := 3) (ref := "DividendDesk$Portion") (v := .int ne) C I fa wX3 rfl 2 (by decide) (by decide +kernel) (fun _ h9 => h9) rfl dX3_tax_7 ?_
  refine lv_icmp_ne (tgt := 20) C.1 C.2.1 dX3_tax_10 (by decide) (fun c10 => ?_) (fun c10 => ?_)
  · refine lv_bipush (v := 30) C.1 C.2.1 dX3_tax_20 (by decide) ?_
    refine lv_istore_n (lv' := [(2, .int 30), (0, .ref a), (1, .int p0)]) C.1 C.2.1 dX3_tax_22 rfl hl (by decide) rfl (fun ls hl => ?_)
    refine lv_aload_n C.1 C.2.1 dX3_tax_23 rfl (lv_at hl 1 rfl) ?_
    refine hv_get (ci := 4) (Cn := RX3) (T := TX3) (N := 3) (ref := "DividendDesk$Portion") (v := .int am) C I fa wX3 rfl 0 (by decide) (by decide +kernel) (fun _ h9 => h9) rfl dX3_tax_24 ?_
    refine lv_i2l C.1 C.2.1 dX3_tax_27 rfl ?_
    refine lv_iload_n C.1 C.2.1 dX3_tax_28 rfl (lv_at hl 0 rfl) ?_
    refine lv_i2l C.1 C.2.1 dX3_tax_29 rfl ?_
    refine lv_lmul C.1 C.2.1 dX3_tax_30 ?_
    refine lv_ldc2 C.1 C.2.1 C.2.2.2.1 (C.ts (w := .constantLong RX3 21 (100)) (by decide +kernel)) dX3_tax_31 ?_
    refine lv_ldiv C.1 C.2.1 dX3_tax_34 (by decide) ?_
    refine lv_l2i C.1 C.2.1 dX3_tax_35 rfl ?_
    exact hv_iret (v := (((am.toInt64 * ((30 : Int32).toInt64)) / (100)).toInt32)) C hr I (⟨rfl, by unfold pt_tax; simp [c10]⟩) dX3_tax_36 (Nat.le_of_ble_eq_true rfl) (Nat.le_of_ble_eq_true rfl)
  · refine lv_aload_n C.1 C.2.1 dX3_tax_13 rfl (lv_at hl 0 rfl) ?_
    refine hv_get (ci := 4) (Cn := RX3) (T := TX3) (N := 3) (ref := "DividendDesk$Portion") (v := .int ra) C I fa wX3 rfl 1 (by decide) (by decide +kernel) (fun _ h9 => h9) rfl dX3_tax_14 ?_
    refine lv_goto (tgt := 22) C.1 C.2.1 dX3_tax_17 (by decide) ?_
    refine lv_istore_n (lv' := [(2, .int ra), (0, .ref a), (1, .int p0)]) C.1 C.2.1 dX3_tax_22 rfl hl (by decide) rfl (fun ls hl => ?_)
    refine lv_aload_n C.1 C.2.1 dX3_tax_23 rfl (lv_at hl 1 rfl) ?_
    refine hv_get (ci := 4) (Cn := RX3) (T := TX3) (N := 3) (ref := "DividendDesk$Portion") (v := .int am) C I fa wX3 rfl 0 (by decide) (by decide +kernel) (fun _ h9 => h9) rfl dX3_tax_24 ?_
    refine lv_i2l C.1 C.2.1 dX3_tax_27 rfl ?_
    refine lv_iload_n C.1 C.2.1 dX3_tax_28 rfl (lv_at hl 0 rfl) ?_
    refine lv_i2l C.1 C.2.1 dX3_tax_29 rfl ?_
    refine lv_lmul C.1 C.2.1 dX3_tax_30 ?_
    refine lv_ldc2 C.1 C.2.1 C.2.2.2.1 (C.ts (w := .constantLong RX3 21 (100)) (by decide +kernel)) dX3_tax_31 ?_
    refine lv_ldiv C.1 C.2.1 dX3_tax_34 (by decide) ?_
    refine lv_l2i C.1 C.2.1 dX3_tax_35 rfl ?_
    exact hv_iret (v := (((am.toInt64 * ra.toInt64) / (100)).toInt32)) C hr I (⟨rfl, by unfold pt_tax; simp [c10]⟩) dX3_tax_36 (Nat.le_of_ble_eq_true rfl) (Nat.le_of_ble_eq_true rfl)

set_option maxHeartbeats 4000000 in
set_option maxRecDepth 100000 in
theorem c_X3_init (l : Launch) (G : hv_G) (h : hv) (sz : Nat) {a : Nat} {x0 x1 x2 : Int32} (fa : h a = some (.inr (4, [.int x0, .int x1, .int x2]))) (p0 p1 p2 : Int32) : hv_Mv l yX3_init wsX3_init 1 30 0 0 G h sz [.ref a, .int p0, .int p1, .int p2] (fun u => u = hv_up h a (.inr (4, [.int p0, .int p1, .int p2]))) := by
  have wX3 : ∀ w ∈ wsX30, w ∈ wsX3_init := by decide +kernel
  refine hv_enter (y := yX3_init) (avs := [.ref a, .int p0, .int p1, .int p2]) (maxL := 4) (Qf := fun sz => va_Qv (fun u => u = hv_up h a (.inr (4, [.int p0, .int p1, .int p2]))) (hv_Bq G h sz) (hv_A h sz)) (by decide) rfl rfl (Nat.le_of_ble_eq_true rfl) ?_
  intro p e s m below meth c hr hnm C I ls hl
  have hl : lv_has ls 4 [(0, .ref a), (1, .int p0), (2, .int p1), (3, .int p2)] := hl
  refine lv_aload_n C.1 C.2.1 dX3_init_0 rfl (lv_at hl 0 rfl) ?_
  refine W.objInit C.1 C.2.1 C.2.2.2.1 (C.ts (w := .methodLink RX3 3 objectInit) (by decide +kernel)) (C.ts (by decide +kernel)) (C.ts (by decide +kernel)) rfl (by rw [C.2.2.1]; exact hl.1) rfl dX3_init_1 (Nat.le_of_ble_eq_true rfl) (Nat.le_of_ble_eq_true rfl) ?_
  refine W.eq (g2 := F0 m 4 ls []) rfl ?_
  refine lv_aload_n C.1 C.2.1 dX3_init_4 rfl (lv_at hl 0 rfl) ?_
  refine lv_iload_n C.1 C.2.1 dX3_init_5 rfl (lv_at hl 1 rfl) ?_
  refine hv_putF (ci := 4) (Cn := RX3) (T := TX3) (N := 3) (ref := "DividendDesk$Portion") (ty := .int) (v := .int p0) C I fa wX3 tyX3 tyX3_ok nmX3 rfl 0 (by decide) (by decide +kernel) (fun _ h9 => h9) rfl hnm rfl (by decide +kernel) rfl rfl (Nat.le_of_ble_eq_true rfl) dX3_init_6 (fun H locs I => ?_)
  have I : hv_I G h s (hv_up h a (.inr (4, [.int p0, .int x1, .int x2]))) H locs := I
  obtain ⟨h_1, eh_1⟩ : ∃ z, z = hv_up h a (.inr (4, [.int p0, .int x1, .int x2])) := ⟨_, rfl⟩
  have I : hv_I G h s h_1 H locs := by rw [eh_1]; exact I
  have fa9 : h_1 a = some (.inr (4, [.int p0, .int x1, .int x2])) := by rw [eh_1]; exact hv_up_eq
  have fa := fa9
  refine lv_aload_n C.1 C.2.1 dX3_init_9 rfl (lv_at hl 0 rfl) ?_
  refine lv_iload_n C.1 C.2.1 dX3_init_10 rfl (lv_at hl 2 rfl) ?_
  refine hv_putF (ci := 4) (Cn := RX3) (T := TX3) (N := 3) (ref := "DividendDesk$Portion") (ty := .int) (v := .int p1) C I fa wX3 tyX3 tyX3_ok nmX3 rfl 1 (by decide) (by decide +kernel) (fun _ h9 => h9) rfl hnm rfl (by decide +kernel) rfl rfl (Nat.le_of_ble_eq_true rfl) dX3_init_11 (fun H locs I => ?_)
  have I : hv_I G h s (hv_up h_1 a (.inr (4, [.int p0, .int p1, .int x2]))) H locs := I
  obtain ⟨h_2, eh_2⟩ : ∃ z, z = hv_up h_1 a (.inr (4, [.int p0, .int p1, .int x2])) := ⟨_, rfl⟩
  have I : hv_I G h s h_2 H locs := by rw [eh_2]; exact I
  have fa9 : h_2 a = some (.inr (4, [.int p0, .int p1, .int x2])) := by rw [eh_2]; exact hv_up_eq
  have fa := fa9
  refine lv_aload_n C.1 C.2.1 dX3_init_14 rfl (lv_at hl 0 rfl) ?_
  refine lv_iload_n C.1 C.2.1 dX3_init_15 rfl (lv_at hl 3 rfl) ?_
  refine hv_putF (ci := 4) (Cn := RX3) (T := TX3) (N := 3) (ref := "DividendDesk$Portion") (ty := .int) (v := .int p2) C I fa wX3 tyX3 tyX3_ok nmX3 rfl 2 (by decide) (by decide +kernel) (fun _ h9 => h9) rfl hnm rfl (by decide +kernel) rfl rfl (Nat.le_of_ble_eq_true rfl) dX3_init_16 (fun H locs I => ?_)
  have I : hv_I G h s (hv_up h_2 a (.inr (4, [.int p0, .int p1, .int p2]))) H locs := I
  obtain ⟨h_3, eh_3⟩ : ∃ z, z = hv_up h_2 a (.inr (4, [.int p0, .int p1, .int p2])) := ⟨_, rfl⟩
  have I : hv_I G h s h_3 H locs := by rw [eh_3]; exact I
  have fa9 : h_3 a = some (.inr (4, [.int p0, .int p1, .int p2])) := by rw [eh_3]; exact hv_up_eq
  have fa := fa9
  exact hv_vret C hr I (by simp only [eh_3, eh_2, eh_1, hv_up_up]) dX3_init_19 (Nat.le_of_ble_eq_true rfl) (Nat.le_of_ble_eq_true rfl)

set_option maxHeartbeats 4000000 in
set_option maxRecDepth 100000 in
theorem c_X1_hasFormOn (l : Launch) (G : hv_G) (h : hv) (sz : Nat) {a mp : Nat} {kd ld sh fe es : Int32} (fa : h a = some (.inr (2, [.int kd, .int ld, .ref mp, .int sh, .int fe, .int es]))) (p0 : Int32) : hv_Mi l yX1_hasFormOn wsX1_hasFormOn 0 0 0 0 G h sz [.ref a, .int p0] (fun r u => u = h ∧ r = hf p0 fe) := by
  have wX1 : ∀ w ∈ wsX10, w ∈ wsX1_hasFormOn := by decide +kernel
  refine hv_enter (y := yX1_hasFormOn) (avs := [.ref a, .int p0]) (maxL := 2) (Qf := fun sz => va_Qi (fun r u => u = h ∧ r = hf p0 fe) (hv_Bq G h sz) (hv_A h sz)) (by decide) rfl rfl (Nat.le_of_ble_eq_true rfl) ?_
  intro p e s m below meth c hr hnm C I ls hl
  have hl : lv_has ls 2 [(0, .ref a), (1, .int p0)] := hl
  refine lv_iload_n C.1 C.2.1 dX1_hasFormOn_0 rfl (lv_at hl 1 rfl) ?_
  refine lv_aload_n C.1 C.2.1 dX1_hasFormOn_1 rfl (lv_at hl 0 rfl) ?_
  refine hv_get (ci := 2) (Cn := RX1) (T := TX1) (N := 6) (ref := "DividendDesk$Holder") (v := .int fe) C I fa wX1 rfl 4 (by decide) (by decide +kernel) (fun _ h9 => h9) rfl dX1_hasFormOn_2 ?_
  refine lv_icmp_gt (tgt := 12) C.1 C.2.1 dX1_hasFormOn_5 (by decide) (fun c5 => ?_) (fun c5 => ?_)
  · refine lv_iconst (v := 0) C.1 C.2.1 dX1_hasFormOn_12 (by decide) ?_
    exact hv_zret (v := 0) C hr I rfl (⟨rfl, by unfold hf; simp [c5]⟩) dX1_hasFormOn_13 (Nat.le_of_ble_eq_true rfl) (Nat.le_of_ble_eq_true rfl)
  · refine lv_iconst (v := 1) C.1 C.2.1 dX1_hasFormOn_8 (by decide) ?_
    refine lv_goto (tgt := 13) C.1 C.2.1 dX1_hasFormOn_9 (by decide) ?_
    exact hv_zret (v := 1) C hr I rfl (⟨rfl, by unfold hf; simp [c5]⟩) dX1_hasFormOn_13 (Nat.le_of_ble_eq_true rfl) (Nat.le_of_ble_eq_true rfl)

set_option maxHeartbeats 4000000 in
set_option maxRecDepth 100000 in
theorem c_X1_hasLargeHoldingOn (l : Launch) (G : hv_G) (h : hv) (sz : Nat) {a mp : Nat} {kd ld sh fe es : Int32} (fa : h a = some (.inr (2, [.int kd, .int ld, .ref mp, .int sh, .int fe, .int es]))) (p0 : Int32) : hv_Mi l yX1_hasLargeHoldingOn wsX1_hasLargeHoldingOn 0 0 0 0 G h sz [.ref a, .int p0] (fun r u => u = h ∧ r = hlg kd sh es p0) := by
  have wX1 : ∀ w ∈ wsX10, w ∈ wsX1_hasLargeHoldingOn := by decide +kernel
  refine hv_enter (y := yX1_hasLargeHoldingOn) (avs := [.ref a, .int p0]) (maxL := 2) (Qf := fun sz => va_Qi (fun r u => u = h ∧ r = hlg kd sh es p0) (hv_Bq G h sz) (hv_A h sz)) (by decide) rfl rfl (Nat.le_of_ble_eq_true rfl) ?_
  intro p e s m below meth c hr hnm C I ls hl
  have hl : lv_has ls 2 [(0, .ref a), (1, .int p0)] := hl
  refine lv_aload_n C.1 C.2.1 dX1_hasLargeHoldingOn_0 rfl (lv_at hl 0 rfl) ?_
  refine hv_get (ci := 2) (Cn := RX1) (T := TX1) (N := 6) (ref := "DividendDesk$Holder") (v := .int kd) C I fa wX1 rfl 0 (by decide) (by decide +kernel) (fun _ h9 => h9) rfl dX1_hasLargeHoldingOn_1 ?_
  refine lv_iconst (v := 1) C.1 C.2.1 dX1_hasLargeHoldingOn_4 (by decide) ?_
  refine lv_icmp_ne (tgt := 41) C.1 C.2.1 dX1_hasLargeHoldingOn_5 (by decide) (fun c5 => ?_) (fun c5 => ?_)
  · refine lv_iconst (v := 0) C.1 C.2.1 dX1_hasLargeHoldingOn_41 (by decide) ?_
    exact hv_zret (v := 0) C hr I rfl (⟨rfl, by unfold hlg; simp [c5]⟩) dX1_hasLargeHoldingOn_42 (Nat.le_of_ble_eq_true rfl) (Nat.le_of_ble_eq_true rfl)
  · refine lv_aload_n C.1 C.2.1 dX1_hasLargeHoldingOn_8 rfl (lv_at hl 0 rfl) ?_
    refine hv_get (ci := 2) (Cn := RX1) (T := TX1) (N := 6) (ref := "DividendDesk$Holder") (v := .int sh) C I fa wX1 rfl 3 (by decide) (by decide +kernel) (fun _ h9 => h9) rfl dX1_hasLargeHoldingOn_9 ?_
    refine lv_ldc C.1 C.2.1 C.2.2.2.1 (C.ts (w := .constant RX1 31 (100000)) (by decide +kernel)) dX1_hasLargeHoldingOn_12 ?_
    refine lv_icmp_lt (tgt := 41) C.1 C.2.1 dX1_hasLargeHoldingOn_14 (by decide) (fun c14 => ?_) (fun c14 => ?_)
    · refine lv_iconst (v := 0) C.1 C.2.1 dX1_hasLargeHoldingOn_41 (by decide) ?_
      exact hv_zret (v := 0) C hr I rfl (⟨rfl, by unfold hlg; simp [c5, c14]⟩) dX1_hasLargeHoldingOn_42 (Nat.le_of_ble_eq_true rfl) (Nat.le_of_ble_eq_true rfl)
    · refine lv_aload_n C.1 C.2.1 dX1_hasLargeHoldingOn_17 rfl (lv_at hl 0 rfl) ?_
      refine hv_get (ci := 2) (Cn := RX1) (T := TX1) (N := 6) (ref := "DividendDesk$Holder") (v := .int es) C I fa wX1 rfl 5 (by decide) (by decide +kernel) (fun _ h9 => h9) rfl dX1_hasLargeHoldingOn_18 ?_
      refine lv_iconst (v := (-1)) C.1 C.2.1 dX1_hasLargeHoldingOn_21 (by decide) ?_
      refine lv_icmp_eq (tgt := 41) C.1 C.2.1 dX1_hasLargeHoldingOn_22 (by decide) (fun c22 => ?_) (fun c22 => ?_)
      · refine lv_iconst (v := 0) C.1 C.2.1 dX1_hasLargeHoldingOn_41 (by decide) ?_
        exact hv_zret (v := 0) C hr I rfl (⟨rfl, by unfold hlg; simp [c5, c14, c22]⟩) dX1_hasLargeHoldingOn_42 (Nat.le_of_ble_eq_true rfl) (Nat.le_of_ble_eq_true rfl)
      · refine lv_iload_n C.1 C.2.1 dX1_hasLargeHoldingOn_25 rfl (lv_at hl 1 rfl) ?_
        refine lv_aload_n C.1 C.2.1 dX1_hasLargeHoldingOn_26 rfl (lv_at hl 0 rfl) ?_
        refine hv_get (ci := 2) (Cn := RX1) (T := TX1) (N := 6) (ref := "DividendDesk$Holder") (v := .int es) C I fa wX1 rfl 5 (by decide) (by decide +kernel) (fun _ h9 => h9) rfl dX1_hasLargeHoldingOn_27 ?_
        refine lv_isub C.1 C.2.1 dX1_hasLargeHoldingOn_30 ?_
        refine lv_sipush (v := 365) C.1 C.2.1 dX1_hasLargeHoldingOn_31 (by decide) ?_
        refine lv_icmp_lt (tgt := 41) C.1 C.2.1 dX1_hasLargeHoldingOn_34 (by decide) (fun c34 => ?_) (fun c34 => ?_)
        · refine lv_iconst (v := 0) C.1 C.2.1 dX1_hasLargeHoldingOn_41 (by decide) ?_
          exact hv_zret (v := 0) C hr I rfl (⟨rfl, by unfold hlg; simp [c5, c14, c22, c34]⟩) dX1_hasLargeHoldingOn_42 (Nat.le_of_ble_eq_true rfl) (Nat.le_of_ble_eq_true rfl)
        · refine lv_iconst (v := 1) C.1 C.2.1 dX1_hasLargeHoldingOn_37 (by decide) ?_
          refine lv_goto (tgt := 42) C.1 C.2.1 dX1_hasLargeHoldingOn_38 (by decide) ?_
          exact hv_zret (v := 1) C hr I rfl (⟨rfl, by unfold hlg; simp [c5, c14, c22, c34]⟩) dX1_hasLargeHoldingOn_42 (Nat.le_of_ble_eq_true rfl) (Nat.le_of_ble_eq_true rfl)

set_option maxHeartbeats 4000000 in
set_option maxRecDepth 100000 in
theorem c_X1_endDay (l : Launch) (G : hv_G) (h : hv) (sz : Nat) {a mp : Nat} {kd ld sh fe es : Int32} (fa : h a = some (.inr (2, [.int kd, .int ld, .ref mp, .int sh, .int fe, .int es]))) (p0 : Int32) : hv_Mv l yX1_endDay wsX1_endDay 0 0 0 0 G h sz [.ref a, .int p0] (fun u => u = hv_up h a (.inr (2, [.int kd, .int ld, .ref mp, .int sh, .int fe, .int (sinceF sh es p0)]))) := by
  have wX1 : ∀ w ∈ wsX10, w ∈ wsX1_endDay := by decide +kernel
  refine hv_enter (y := yX1_endDay) (avs := [.ref a, .int p0]) (maxL := 2) (Qf := fun sz => va_Qv (fun u => u = hv_up h a (.inr (2, [.int kd, .int ld, .ref mp, .int sh, .int fe, .int (sinceF sh es p0)]))) (hv_Bq G h sz) (hv_A h sz)) (by decide) rfl rfl (Nat.le_of_ble_eq_true rfl) ?_
  intro p e s m below meth c hr hnm C I ls hl
  have hl : lv_has ls 2 [(0, .ref a), (1, .int p0)] := hl
  refine lv_aload_n C.1 C.2.1 dX1_endDay_0 rfl (lv_at hl 0 rfl) ?_
  refine hv_get (ci := 2) (Cn := RX1) (T := TX1) (N := 6) (ref := "DividendDesk$Holder") (v := .int sh) C I fa wX1 rfl 3 (by decide) (by decide +kernel) (fun _ h9 => h9) rfl dX1_endDay_1 ?_
  refine lv_ldc C.1 C.2.1 C.2.2.2.1 (C.ts (w := .constant RX1 31 (100000)) (by decide +kernel)) dX1_endDay_4 ?_
  refine lv_icmp_ge (tgt := 17) C.1 C.2.1 dX1_endDay_6 (by decide) (fun c6 => ?_) (fun c6 => ?_)
  · refine lv_aload_n C.1 C.2.1 dX1_endDay_17 rfl (lv_at hl 0 rfl) ?_
    refine hv_get (ci := 2) (Cn := RX1) (T := TX1) (N := 6) (ref := "DividendDesk$Holder") (v := .int es) C I fa wX1 rfl 5 (by decide) (by decide +kernel) (fun _ h9 => h9) rfl dX1_endDay_18 ?_
    refine lv_iconst (v := (-1)) C.1 C.2.1 dX1_endDay_21 (by decide) ?_
    refine lv_icmp_ne (tgt := 30) C.1 C.2.1 dX1_endDay_22 (by decide) (fun c22 => ?_) (fun c22 => ?_)
    · exact hv_vret C hr I (by rw [show sinceF sh es p0 = es by unfold sinceF; simp [c6, c22]]; exact (hv_up_same fa).symm) dX1_endDay_30 (Nat.le_of_ble_eq_true rfl) (Nat.le_of_ble_eq_true rfl)
    · refine lv_aload_n C.1 C.2.1 dX1_endDay_25 rfl (lv_at hl 0 rfl) ?_
      refine lv_iload_n C.1 C.2.1 dX1_endDay_26 rfl (lv_at hl 1 rfl) ?_
      refine hv_put (ci := 2) (Cn := RX1) (T := TX1) (N := 6) (ref := "DividendDesk$Holder") (ty := .int) (v := .int p0) C I fa wX1 tyX1 tyX1_ok nmX1 rfl 5 (by decide) (by decide +kernel) (fun _ h9 => h9) rfl (by decide +kernel) rfl rfl (Nat.le_of_ble_eq_true rfl) dX1_endDay_27 (fun H locs I => ?_)
      have I : hv_I G h s (hv_up h a (.inr (2, [.int kd, .int ld, .ref mp, .int sh, .int fe, .int p0]))) H locs := I
      obtain ⟨h_1, eh_1⟩ : ∃ z, z = hv_up h a (.inr (2, [.int kd, .int ld, .ref mp, .int sh, .int fe, .int p0])) := ⟨_, rfl⟩
      have I : hv_I G h s h_1 H locs := by rw [eh_1]; exact I
      have fa9 : h_1 a = some (.inr (2, [.int kd, .int ld, .ref mp, .int sh, .int fe, .int p0])) := by rw [eh_1]; exact hv_up_eq
      have fa := fa9
      exact hv_vret C hr I (by rw [eh_1]; unfold sinceF; simp [c6, c22]) dX1_endDay_30 (Nat.le_of_ble_eq_true rfl) (Nat.le_of_ble_eq_true rfl)
  · refine lv_aload_n C.1 C.2.1 dX1_endDay_9 rfl (lv_at hl 0 rfl) ?_
    refine lv_iconst (v := (-1)) C.1 C.2.1 dX1_endDay_10 (by decide) ?_
    refine hv_put (ci := 2) (Cn := RX1) (T := TX1) (N := 6) (ref := "DividendDesk$Holder") (ty := .int) (v := .int (-1)) C I fa wX1 tyX1 tyX1_ok nmX1 rfl 5 (by decide) (by decide +kernel) (fun _ h9 => h9) rfl (by decide +kernel) rfl rfl (Nat.le_of_ble_eq_true rfl) dX1_endDay_11 (fun H locs I => ?_)
    have I : hv_I G h s (hv_up h a (.inr (2, [.int kd, .int ld, .ref mp, .int sh, .int fe, .int (-1)]))) H locs := I
    obtain ⟨h_2, eh_2⟩ : ∃ z, z = hv_up h a (.inr (2, [.int kd, .int ld, .ref mp, .int sh, .int fe, .int (-1)])) := ⟨_, rfl⟩
    have I : hv_I G h s h_2 H locs := by rw [eh_2]; exact I
    have fa9 : h_2 a = some (.inr (2, [.int kd, .int ld, .ref mp, .int sh, .int fe, .int (-1)])) := by rw [eh_2]; exact hv_up_eq
    have fa := fa9
    refine lv_goto (tgt := 30) C.1 C.2.1 dX1_endDay_14 (by decide) ?_
    exact hv_vret C hr I (by rw [eh_2]; unfold sinceF; simp [c6]) dX1_endDay_30 (Nat.le_of_ble_eq_true rfl) (Nat.le_of_ble_eq_true rfl)

set_option maxHeartbeats 4000000 in
set_option maxRecDepth 100000 in
theorem c_X1_partsOf (l : Launch) (G : hv_G) (h : hv) (sz : Nat) {a mp : Nat} {kd ld sh fe es : Int32} (fa : h a = some (.inr (2, [.int kd, .int ld, .ref mp, .int sh, .int fe, .int es]))) {f : Nat → Int32} (fm : h mp = some (.inl (G.2.1 0, 20, .inl f))) (p0 : Int32) : hv_Mi l yX1_partsOf wsX1_partsOf 0 0 0 0 G h sz [.ref a, .int p0] (fun r u => u = h ∧ r = pts20 f p0) := by
  have wX1 : ∀ w ∈ wsX10, w ∈ wsX1_partsOf := by decide +kernel
  refine hv_enter (y := yX1_partsOf) (avs := [.ref a, .int p0]) (maxL := 2) (Qf := fun sz => va_Qi (fun r u => u = h ∧ r = pts20 f p0) (hv_Bq G h sz) (hv_A h sz)) (by decide) rfl rfl (Nat.le_of_ble_eq_true rfl) ?_
  intro p e s m below meth c hr hnm C I ls hl
  have hl : lv_has ls 2 [(0, .ref a), (1, .int p0)] := hl
  refine lv_iload_n C.1 C.2.1 dX1_partsOf_0 rfl (lv_at hl 1 rfl) ?_
  refine lv_if_lt (tgt := 22) C.1 C.2.1 dX1_partsOf_1 (by decide) (fun c1 => ?_) (fun c1 => ?_)
  · refine lv_iconst (v := 0) C.1 C.2.1 dX1_partsOf_22 (by decide) ?_
    exact hv_iret (v := 0) C hr I (⟨rfl, by unfold pts20; simp [c1]⟩) dX1_partsOf_23 (Nat.le_of_ble_eq_true rfl) (Nat.le_of_ble_eq_true rfl)
  · refine lv_iload_n C.1 C.2.1 dX1_partsOf_4 rfl (lv_at hl 1 rfl) ?_
    refine lv_aload_n C.1 C.2.1 dX1_partsOf_5 rfl (lv_at hl 0 rfl) ?_
    refine hv_get (ci := 2) (Cn := RX1) (T := TX1) (N := 6) (ref := "DividendDesk$Holder") (v := .ref mp) C I fa wX1 rfl 2 (by decide) (by decide +kernel) (fun _ h9 => h9) rfl dX1_partsOf_6 ?_
    refine hv_alen (v := 20) C I fm 0 rfl rfl dX1_partsOf_9 ?_
    refine lv_icmp_ge (tgt := 22) C.1 C.2.1 dX1_partsOf_10 (by decide) (fun c10 => ?_) (fun c10 => ?_)
    · refine lv_iconst (v := 0) C.1 C.2.1 dX1_partsOf_22 (by decide) ?_
      exact hv_iret (v := 0) C hr I (⟨rfl, by unfold pts20; simp [c1, c10]⟩) dX1_partsOf_23 (Nat.le_of_ble_eq_true rfl) (Nat.le_of_ble_eq_true rfl)
    · refine lv_aload_n C.1 C.2.1 dX1_partsOf_13 rfl (lv_at hl 0 rfl) ?_
      refine hv_get (ci := 2) (Cn := RX1) (T := TX1) (N := 6) (ref := "DividendDesk$Holder") (v := .ref mp) C I fa wX1 rfl 2 (by decide) (by decide +kernel) (fun _ h9 => h9) rfl dX1_partsOf_14 ?_
      refine lv_iload_n C.1 C.2.1 dX1_partsOf_17 rfl (lv_at hl 1 rfl) ?_
      refine hv_iald C I fm (hv_in 20 (by decide) c1 c10) dX1_partsOf_18 ?_
      refine lv_goto (tgt := 23) C.1 C.2.1 dX1_partsOf_19 (by decide) ?_
      exact hv_iret (v := (f p0.toNatClampNeg)) C hr I (⟨rfl, by unfold pts20; simp [c1, c10]⟩) dX1_partsOf_23 (Nat.le_of_ble_eq_true rfl) (Nat.le_of_ble_eq_true rfl)

set_option maxHeartbeats 4000000 in
set_option maxRecDepth 100000 in
theorem c_X1_changeParts (l : Launch) (G : hv_G) (h : hv) (sz : Nat) {a mp : Nat} {kd ld sh fe es : Int32} (fa : h a = some (.inr (2, [.int kd, .int ld, .ref mp, .int sh, .int fe, .int es]))) {f : Nat → Int32} (fm : h mp = some (.inl (G.2.1 0, 20, .inl f))) (p0 p1 : Int32) (g0 : ¬ p0 < 0) (g1 : ¬ (20 : Int32) ≤ p0) : hv_Mv l yX1_changeParts wsX1_changeParts 0 0 0 0 G h sz [.ref a, .int p0, .int p1] (fun u => u = hv_up h mp (.inl (G.2.1 0, 20, .inl (upd f p0.toNatClampNeg p1)))) := by
  have wX1 : ∀ w ∈ wsX10, w ∈ wsX1_changeParts := by decide +kernel
  refine hv_enter (y := yX1_changeParts) (avs := [.ref a, .int p0, .int p1]) (maxL := 3) (Qf := fun sz => va_Qv (fun u => u = hv_up h mp (.inl (G.2.1 0, 20, .inl (upd f p0.toNatClampNeg p1)))) (hv_Bq G h sz) (hv_A h sz)) (by decide) rfl rfl (Nat.le_of_ble_eq_true rfl) ?_
  intro p e s m below meth c hr hnm C I ls hl
  have hl : lv_has ls 3 [(0, .ref a), (1, .int p0), (2, .int p1)] := hl
  refine lv_iload_n C.1 C.2.1 dX1_changeParts_0 rfl (lv_at hl 1 rfl) ?_
  refine lv_if_lt (tgt := 20) C.1 C.2.1 dX1_changeParts_1 (by decide) (fun c1 => ?_) (fun c1 => ?_)
  · exact absurd c1 g0
  · refine lv_iload_n C.1 C.2.1 dX1_changeParts_4 rfl (lv_at hl 1 rfl) ?_
    refine lv_aload_n C.1 C.2.1 dX1_changeParts_5 rfl (lv_at hl 0 rfl) ?_
    refine hv_get (ci := 2) (Cn := RX1) (T := TX1) (N := 6) (ref := "DividendDesk$Holder") (v := .ref mp) C I fa wX1 rfl 2 (by decide) (by decide +kernel) (fun _ h9 => h9) rfl dX1_changeParts_6 ?_
    refine hv_alen (v := 20) C I fm 0 rfl rfl dX1_changeParts_9 ?_
    refine lv_icmp_ge (tgt := 20) C.1 C.2.1 dX1_changeParts_10 (by decide) (fun c10 => ?_) (fun c10 => ?_)
    · exact absurd c10 g1
    · refine lv_aload_n C.1 C.2.1 dX1_changeParts_13 rfl (lv_at hl 0 rfl) ?_
      refine hv_get (ci := 2) (Cn := RX1) (T := TX1) (N := 6) (ref := "DividendDesk$Holder") (v := .ref mp) C I fa wX1 rfl 2 (by decide) (by decide +kernel) (fun _ h9 => h9) rfl dX1_changeParts_14 ?_
      refine lv_iload_n C.1 C.2.1 dX1_changeParts_17 rfl (lv_at hl 1 rfl) ?_
      refine lv_iload_n C.1 C.2.1 dX1_changeParts_18 rfl (lv_at hl 2 rfl) ?_
      refine hv_iast C I fm (hv_in 20 (by decide) c1 c10) dX1_changeParts_19 (fun H locs I => ?_)
      obtain ⟨h_1, eh_1⟩ : ∃ z, z = hv_up h mp (.inl (G.2.1 0, 20, .inl (upd f p0.toNatClampNeg p1))) := ⟨_, rfl⟩
      have I : hv_I G h s h_1 H locs := by rw [eh_1]; exact I
      have fa9 : h_1 a = some (.inr (2, [.int kd, .int ld, .ref mp, .int sh, .int fe, .int es])) := by rw [eh_1, hv_up_ne (hv_neOA fa fm)]; exact fa
      have fm9 : h_1 mp = some (.inl (G.2.1 0, 20, .inl (upd f p0.toNatClampNeg p1))) := by rw [eh_1]; exact hv_up_eq
      have fa := fa9
      have fm := fm9
      exact hv_vret C hr I (eh_1) dX1_changeParts_20 (Nat.le_of_ble_eq_true rfl) (Nat.le_of_ble_eq_true rfl)

set_option maxHeartbeats 4000000 in
set_option maxRecDepth 100000 in
theorem c_X1_partsInAll (l : Launch) (G : hv_G) (h : hv) (sz : Nat) {a mp : Nat} {kd ld sh fe es : Int32} (fa : h a = some (.inr (2, [.int kd, .int ld, .ref mp, .int sh, .int fe, .int es]))) {f : Nat → Int32} (fm : h mp = some (.inl (G.2.1 0, 20, .inl f))) : hv_Mi l yX1_partsInAll wsX1_partsInAll 0 0 0 0 G h sz [.ref a] (fun r u => u = h ∧ r = l_sum f 20) := by
  have wX1 : ∀ w ∈ wsX10, w ∈ wsX1_partsInAll := by decide +kernel
  refine hv_enter (y := yX1_partsInAll) (avs := [.ref a]) (maxL := 3) (Qf := fun sz => va_Qi (fun r u => u = h ∧ r = l_sum f 20) (hv_Bq G h sz) (hv_A h sz)) (by decide) rfl rfl (Nat.le_of_ble_eq_true rfl) ?_
  intro p e s m below meth c hr hnm C I ls hl
  have hl : lv_has ls 3 [(0, .ref a)] := hl
  refine lv_iconst (v := 0) C.1 C.2.1 dX1_partsInAll_0 (by decide) ?_
  refine lv_istore_n (lv' := [(1, .int 0), (0, .ref a)]) C.1 C.2.1 dX1_partsInAll_1 rfl hl (by decide) rfl (fun ls hl => ?_)
  refine lv_iconst (v := 0) C.1 C.2.1 dX1_partsInAll_2 (by decide) ?_
  refine lv_istore_n (lv' := [(2, .int 0), (1, .int 0), (0, .ref a)]) C.1 C.2.1 dX1_partsInAll_3 rfl hl (by decide) rfl (fun ls hl => ?_)
  have loop : ∀ (k9 i : Nat) , i ≤ 20 → 20 + 1 ≤ i + k9 → ∀ (H : Heap) (locs : List Loc), hv_I G h s h H locs → ∀ ls : Array Slot, lv_has ls 3 [(2, .int (nI i)), (1, .int (l_sum f i)), (0, .ref a)] → W p l e (hv_rm 0 0 0 0) s m (([.ref a] : List Value).toArray) below meth c H locs 0 0 (MQ below (va_Qi (fun r u => u = h ∧ r = l_sum f 20) (hv_Bq G h s.heap.size) (hv_A h s.heap.size)) (([.ref a] : List Value).toArray) s 0 0 (hv_A h s.heap.size)) (F0 m 4 ls []) := by
    intro k9
    induction k9 with
    | zero => intro i hi hin; exact absurd hin (by omega)
    | succ k9 ih =>
      intro i hi hin H locs I ls hl
      refine lv_iload_n C.1 C.2.1 dX1_partsInAll_4 rfl (lv_at hl 0 rfl) ?_
      refine lv_aload_n C.1 C.2.1 dX1_partsInAll_5 rfl (lv_at hl 2 rfl) ?_
      refine hv_get (ci := 2) (Cn := RX1) (T := TX1) (N := 6) (ref := "DividendDesk$Holder") (v := .ref mp) C I fa wX1 rfl 2 (by decide) (by decide +kernel) (fun _ h9 => h9) rfl dX1_partsInAll_6 ?_
      refine hv_alen (v := 20) C I fm 0 rfl rfl dX1_partsInAll_9 ?_
      refine lv_icmp_ge (tgt := 28) C.1 C.2.1 dX1_partsInAll_10 (by decide) (fun c10 => ?_) (fun c10 => ?_)
      · have hi10 : i = 20 := Nat.le_antisymm hi (hv_leN (n := 20) (by decide) (by omega) c10)
        refine lv_iload_n C.1 C.2.1 dX1_partsInAll_28 rfl (lv_at hl 1 rfl) ?_
        exact hv_iret (v := (l_sum f i)) C hr I (⟨rfl, by rw [hi10]⟩) dX1_partsInAll_29 (Nat.le_of_ble_eq_true rfl) (Nat.le_of_ble_eq_true rfl)
      · have hi10 : i < 20 := hv_ltN (n := 20) (by decide) (by omega) c10
        refine lv_iload_n C.1 C.2.1 dX1_partsInAll_13 rfl (lv_at hl 1 rfl) ?_
        refine lv_aload_n C.1 C.2.1 dX1_partsInAll_14 rfl (lv_at hl 2 rfl) ?_
        refine hv_get (ci := 2) (Cn := RX1) (T := TX1) (N := 6) (ref := "DividendDesk$Holder") (v := .ref mp) C I fa wX1 rfl 2 (by decide) (by decide +kernel) (fun _ h9 => h9) rfl dX1_partsInAll_15 ?_
        refine lv_iload_n C.1 C.2.1 dX1_partsInAll_18 rfl (lv_at hl 0 rfl) ?_
        refine hv_ialdN C I fm hi10 (by decide) dX1_partsInAll_19 ?_
        refine lv_iadd C.1 C.2.1 dX1_partsInAll_20 ?_
        refine lv_topi (fun z_1 ez_1 => ?_)
        have ez_1 : z_1 = l_sum f (i + 1) := by rw [ez_1]; rfl
        subst ez_1
        refine lv_istore_n (lv' := [(1, .int (l_sum f (i + 1))), (2, .int (nI i)), (0, .ref a)]) C.1 C.2.1 dX1_partsInAll_21 rfl hl (by decide) rfl (fun ls hl => ?_)
        refine lv_iinc (v := nI (i + 1)) (lv' := [(2, .int (nI (i + 1))), (1, .int (l_sum f (i + 1))), (0, .ref a)]) C.1 C.2.1 dX1_partsInAll_22 hl (k := 1) rfl (nI_1 i) (by decide) rfl (fun ls hl => ?_)
        refine lv_goto (tgt := 4) C.1 C.2.1 dX1_partsInAll_25 (by decide) ?_
        exact ih (i + 1) (by omega) (by omega)  _ _ I ls (lv_sub hl [0, 1, 2] rfl)
  exact loop (20 + 1) 0 (Nat.zero_le _) (by omega) _ _ I ls (lv_sub hl [0, 1, 2] rfl)

set_option maxHeartbeats 4000000 in
set_option maxRecDepth 100000 in
theorem c_X1_init (l : Launch) (G : hv_G) (h : hv) (sz : Nat) {a : Nat} {x0 x1 x3 x4 x5 : Int32} (fa : h a = some (.inr (2, [.int x0, .int x1, .null, .int x3, .int x4, .int x5]))) (p0 p1 : Int32) : hv_Mv l yX1_init wsX1_init 1 30 1 20 G h sz [.ref a, .int p0, .int p1] (fun u => ∃ q : Nat, h q = none ∧ u = hv_up (hv_up h q (.inl (G.2.1 0, 20, .inl (fun _ => 0)))) a (.inr (2, [.int p0, .int p1, .ref q, .int 0, .int (-1), .int (-1)]))) := by
  have wX1 : ∀ w ∈ wsX10, w ∈ wsX1_init := by decide +kernel
  refine hv_enter (y := yX1_init) (avs := [.ref a, .int p0, .int p1]) (maxL := 3) (Qf := fun sz => va_Qv (fun u => ∃ q : Nat, h q = none ∧ u = hv_up (hv_up h q (.inl (G.2.1 0, 20, .inl (fun _ => 0)))) a (.inr (2, [.int p0, .int p1, .ref q, .int 0, .int (-1), .int (-1)]))) (hv_Bq G h sz) (hv_A h sz)) (by decide) rfl rfl (Nat.le_of_ble_eq_true rfl) ?_
  intro p e s m below meth c hr hnm C I ls hl
  have hl : lv_has ls 3 [(0, .ref a), (1, .int p0), (2, .int p1)] := hl
  refine lv_aload_n C.1 C.2.1 dX1_init_0 rfl (lv_at hl 0 rfl) ?_
  refine W.objInit C.1 C.2.1 C.2.2.2.1 (C.ts (w := .methodLink RX1 3 objectInit) (by decide +kernel)) (C.ts (by decide +kernel)) (C.ts (by decide +kernel)) rfl (by rw [C.2.2.1]; exact hl.1) rfl dX1_init_1 (Nat.le_of_ble_eq_true rfl) (Nat.le_of_ble_eq_true rfl) ?_
  refine W.eq (g2 := F0 m 4 ls []) rfl ?_
  refine lv_aload_n C.1 C.2.1 dX1_init_4 rfl (lv_at hl 0 rfl) ?_
  refine lv_bipush (v := 20) C.1 C.2.1 dX1_init_5 (by decide) ?_
  refine hv_newI (N := 20) C I (by decide +kernel) (by decide) (by decide) (by decide) (Nat.le_of_ble_eq_true rfl) (Nat.le_of_ble_eq_true rfl) dX1_init_7 (fun q_1 H nq_1 I => ?_)
  obtain ⟨h_2, eh_2⟩ : ∃ z, z = hv_up h q_1 (.inl (G.2.1 0, 20, .inl (fun _ => 0))) := ⟨_, rfl⟩
  rw [← eh_2] at I
  have fa9 : h_2 a = some (.inr (2, [.int x0, .int x1, .null, .int x3, .int x4, .int x5])) := by rw [eh_2, hv_up_ne (hv_neN fa nq_1)]; exact fa
  have fa := fa9
  have fq_1 : h_2 q_1 = some (.inl (G.2.1 0, 20, .inl (fun _ => 0))) := by rw [eh_2]; exact hv_up_eq
  refine hv_putF (ci := 2) (Cn := RX1) (T := TX1) (N := 6) (ref := "DividendDesk$Holder") (ty := .array .int) (v := .ref q_1) C I fa wX1 tyX1 tyX1_ok nmX1 rfl 2 (by decide) (by decide +kernel) (fun _ h9 => h9) rfl hnm rfl (by decide +kernel) rfl rfl (Nat.le_of_ble_eq_true rfl) dX1_init_9 (fun H locs I => ?_)
  have I : hv_I G h s (hv_up h_2 a (.inr (2, [.int x0, .int x1, .ref q_1, .int x3, .int x4, .int x5]))) H locs := I
  obtain ⟨h_3, eh_3⟩ : ∃ z, z = hv_up h_2 a (.inr (2, [.int x0, .int x1, .ref q_1, .int x3, .int x4, .int x5])) := ⟨_, rfl⟩
  have I : hv_I G h s h_3 H locs := by rw [eh_3]; exact I
  have fa9 : h_3 a = some (.inr (2, [.int x0, .int x1, .ref q_1, .int x3, .int x4, .int x5])) := by rw [eh_3]; exact hv_up_eq
  have fq_19 : h_3 q_1 = some (.inl (G.2.1 0, 20, .inl (fun _ => 0))) := by rw [eh_3, hv_up_ne (hv_neAO fq_1 fa)]; exact fq_1
  have fa := fa9
  have fq_1 := fq_19
  refine lv_aload_n C.1 C.2.1 dX1_init_12 rfl (lv_at hl 0 rfl) ?_
  refine lv_iconst (v := 0) C.1 C.2.1 dX1_init_13 (by decide) ?_
  refine hv_put (ci := 2) (Cn := RX1) (T := TX1) (N := 6) (ref := "DividendDesk$Holder") (ty := .int) (v := .int 0) C I fa wX1 tyX1 tyX1_ok nmX1 rfl 3 (by decide) (by decide +kernel) (fun _ h9 => h9) rfl (by decide +kernel) rfl rfl (Nat.le_of_ble_eq_true rfl) dX1_init_14 (fun H locs I => ?_)
  have I : hv_I G h s (hv_up h_3 a (.inr (2, [.int x0, .int x1, .ref q_1, .int 0, .int x4, .int x5]))) H locs := I
  obtain ⟨h_4, eh_4⟩ : ∃ z, z = hv_up h_3 a (.inr (2, [.int x0, .int x1, .ref q_1, .int 0, .int x4, .int x5])) := ⟨_, rfl⟩
  have I : hv_I G h s h_4 H locs := by rw [eh_4]; exact I
  have fa9 : h_4 a = some (.inr (2, [.int x0, .int x1, .ref q_1, .int 0, .int x4, .int x5])) := by rw [eh_4]; exact hv_up_eq
  have fq_19 : h_4 q_1 = some (.inl (G.2.1 0, 20, .inl (fun _ => 0))) := by rw [eh_4, hv_up_ne (hv_neAO fq_1 fa)]; exact fq_1
  have fa := fa9
  have fq_1 := fq_19
  refine lv_aload_n C.1 C.2.1 dX1_init_17 rfl (lv_at hl 0 rfl) ?_
  refine lv_iconst (v := (-1)) C.1 C.2.1 dX1_init_18 (by decide) ?_
  refine hv_put (ci := 2) (Cn := RX1) (T := TX1) (N := 6) (ref := "DividendDesk$Holder") (ty := .int) (v := .int (-1)) C I fa wX1 tyX1 tyX1_ok nmX1 rfl 4 (by decide) (by decide +kernel) (fun _ h9 => h9) rfl (by decide +kernel) rfl rfl (Nat.le_of_ble_eq_true rfl) dX1_init_19 (fun H locs I => ?_)
  have I : hv_I G h s (hv_up h_4 a (.inr (2, [.int x0, .int x1, .ref q_1, .int 0, .int (-1), .int x5]))) H locs := I
  obtain ⟨h_5, eh_5⟩ : ∃ z, z = hv_up h_4 a (.inr (2, [.int x0, .int x1, .ref q_1, .int 0, .int (-1), .int x5])) := ⟨_, rfl⟩
  have I : hv_I G h s h_5 H locs := by rw [eh_5]; exact I
  have fa9 : h_5 a = some (.inr (2, [.int x0, .int x1, .ref q_1, .int 0, .int (-1), .int x5])) := by rw [eh_5]; exact hv_up_eq
  have fq_19 : h_5 q_1 = some (.inl (G.2.1 0, 20, .inl (fun _ => 0))) := by rw [eh_5, hv_up_ne (hv_neAO fq_1 fa)]; exact fq_1
  have fa := fa9
  have fq_1 := fq_19
  refine lv_aload_n C.1 C.2.1 dX1_init_22 rfl (lv_at hl 0 rfl) ?_
  refine lv_iconst (v := (-1)) C.1 C.2.1 dX1_init_23 (by decide) ?_
  refine hv_put (ci := 2) (Cn := RX1) (T := TX1) (N := 6) (ref := "DividendDesk$Holder") (ty := .int) (v := .int (-1)) C I fa wX1 tyX1 tyX1_ok nmX1 rfl 5 (by decide) (by decide +kernel) (fun _ h9 => h9) rfl (by decide +kernel) rfl rfl (Nat.le_of_ble_eq_true rfl) dX1_init_24 (fun H locs I => ?_)
  have I : hv_I G h s (hv_up h_5 a (.inr (2, [.int x0, .int x1, .ref q_1, .int 0, .int (-1), .int (-1)]))) H locs := I
  obtain ⟨h_6, eh_6⟩ : ∃ z, z = hv_up h_5 a (.inr (2, [.int x0, .int x1, .ref q_1, .int 0, .int (-1), .int (-1)])) := ⟨_, rfl⟩
  have I : hv_I G h s h_6 H locs := by rw [eh_6]; exact I
  have fa9 : h_6 a = some (.inr (2, [.int x0, .int x1, .ref q_1, .int 0, .int (-1), .int (-1)])) := by rw [eh_6]; exact hv_up_eq
  have fq_19 : h_6 q_1 = some (.inl (G.2.1 0, 20, .inl (fun _ => 0))) := by rw [eh_6, hv_up_ne (hv_neAO fq_1 fa)]; exact fq_1
  have fa := fa9
  have fq_1 := fq_19
  refine lv_aload_n C.1 C.2.1 dX1_init_27 rfl (lv_at hl 0 rfl) ?_
  refine lv_iload_n C.1 C.2.1 dX1_init_28 rfl (lv_at hl 1 rfl) ?_
  refine hv_putF (ci := 2) (Cn := RX1) (T := TX1) (N := 6) (ref := "DividendDesk$Holder") (ty := .int) (v := .int p0) C I fa wX1 tyX1 tyX1_ok nmX1 rfl 0 (by decide) (by decide +kernel) (fun _ h9 => h9) rfl hnm rfl (by decide +kernel) rfl rfl (Nat.le_of_ble_eq_true rfl) dX1_init_29 (fun H locs I => ?_)
  have I : hv_I G h s (hv_up h_6 a (.inr (2, [.int p0, .int x1, .ref q_1, .int 0, .int (-1), .int (-1)]))) H locs := I
  obtain ⟨h_7, eh_7⟩ : ∃ z, z = hv_up h_6 a (.inr (2, [.int p0, .int x1, .ref q_1, .int 0, .int (-1), .int (-1)])) := ⟨_, rfl⟩
  have I : hv_I G h s h_7 H locs := by rw [eh_7]; exact I
  have fa9 : h_7 a = some (.inr (2, [.int p0, .int x1, .ref q_1, .int 0, .int (-1), .int (-1)])) := by rw [eh_7]; exact hv_up_eq
  have fq_19 : h_7 q_1 = some (.inl (G.2.1 0, 20, .inl (fun _ => 0))) := by rw [eh_7, hv_up_ne (hv_neAO fq_1 fa)]; exact fq_1
  have fa := fa9
  have fq_1 := fq_19
  refine lv_aload_n C.1 C.2.1 dX1_init_32 rfl (lv_at hl 0 rfl) ?_
  refine lv_iload_n C.1 C.2.1 dX1_init_33 rfl (lv_at hl 2 rfl) ?_
  refine hv_putF (ci := 2) (Cn := RX1) (T := TX1) (N := 6) (ref := "DividendDesk$Holder") (ty := .int) (v := .int p1) C I fa wX1 tyX1 tyX1_ok nmX1 rfl 1 (by decide) (by decide +kernel) (fun _ h9 => h9) rfl hnm rfl (by decide +kernel) rfl rfl (Nat.le_of_ble_eq_true rfl) dX1_init_34 (fun H locs I => ?_)
  have I : hv_I G h s (hv_up h_7 a (.inr (2, [.int p0, .int p1, .ref q_1, .int 0, .int (-1), .int (-1)]))) H locs := I
  obtain ⟨h_8, eh_8⟩ : ∃ z, z = hv_up h_7 a (.inr (2, [.int p0, .int p1, .ref q_1, .int 0, .int (-1), .int (-1)])) := ⟨_, rfl⟩
  have I : hv_I G h s h_8 H locs := by rw [eh_8]; exact I
  have fa9 : h_8 a = some (.inr (2, [.int p0, .int p1, .ref q_1, .int 0, .int (-1), .int (-1)])) := by rw [eh_8]; exact hv_up_eq
  have fq_19 : h_8 q_1 = some (.inl (G.2.1 0, 20, .inl (fun _ => 0))) := by rw [eh_8, hv_up_ne (hv_neAO fq_1 fa)]; exact fq_1
  have fa := fa9
  have fq_1 := fq_19
  exact hv_vret C hr I (⟨q_1, nq_1, by simp only [eh_8, eh_7, eh_6, eh_5, eh_4, eh_3, eh_2, hv_up_up]⟩) dX1_init_37 (Nat.le_of_ble_eq_true rfl) (Nat.le_of_ble_eq_true rfl)
