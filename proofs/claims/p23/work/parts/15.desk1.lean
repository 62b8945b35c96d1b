/-! ===== the desk, method by method ===== -/
theorem iwh_nI {j n : Nat} (hj : j < n) (hn : n ≤ 1000) : iw (nI j) 0 (nI n - 1) = 1 := by
  unfold iw
  rw [if_neg (show ¬ nI j < 0 from nI_nlt (Nat.zero_le _) (by omega))]
  cases n with
  | zero => omega
  | succ k => rw [nI_pred, if_neg (nI_nlt (by omega) (by omega))]
def rD (f : Nat → Int32) (ld : Int32) : Int32 := if iw ld 0 5 = 0 then 30 else f ld.toNatClampNeg
theorem hv_not6 {a : Int32} (h : ¬ iw a 0 5 = 0) : ¬ (6 : Int32) ≤ a := by
  obtain ⟨j, hj, rfl⟩ := vp_in_of (iw_vp (k := 5) (by decide) h) (by decide)
  exact fun z => absurd ((nI_leI (a := 6) (b := j) (by decide) (by omega)).mp z) (by omega)
def ownF (g lg L : Int32) : Int32 := if L = 0 then g else if lg < g then lg else g
def vfm (dy : Int32) (fe : Nat → Int32) : Nat → Int32
  | 0 => 0
  | k + 1 => if hf dy (fe k) = 0 then vfm dy fe k else vfm dy fe k ||| ((1 : Int32) <<< (nI k &&& 31))
theorem pts20_prow (f : Nat → Int32) (i : Nat) {j : Nat} (hj : j < 20) : pts20 (prow f i) (nI j) = f (20 * i + j) := by
  unfold pts20
  rw [if_neg (show ¬ nI j < 0 from nI_nlt (Nat.zero_le _) (by omega)), if_neg (show ¬ (20 : Int32) ≤ nI j from fun z => absurd ((nI_leI (a := 20) (b := j) (by decide) (by omega)).mp z) (by omega)), nI_clamp (by omega)]
  exact if_pos hj
set_option maxHeartbeats 4000000 in
set_option maxRecDepth 100000 in
theorem c_X4_isHolder (l : Launch) (G : hv_G) (h : hv) (sz : Nat) {ad : Nat → Nat → Nat} {n d dl : Nat} {dy : Int32} {rf : Int64} {ar : Nat → Nat → Int32} {fm : Nat → Int32} {po : Nat → List (Int32 × Int32 × Int32)} (hD : isD G h ad n d dl dy rf ar fm po) (p0 : Int32) : hv_Mi l yX4_isHolder wsX4_isHolder 1 60 0 0 G h sz [.ref (ad 0 0), .int p0] (fun r u => u = h ∧ r = iw p0 0 (nI n - 1)) := by
  have wX4 : ∀ w ∈ wsX40, w ∈ wsX4_isHolder := by decide +kernel
  refine hv_enter (y := yX4_isHolder) (avs := [.ref (ad 0 0), .int p0]) (maxL := 2) (Qf := fun sz => va_Qi (fun r u => u = h ∧ r = iw p0 0 (nI n - 1)) (hv_Bq G h sz) (hv_A h sz)) (by decide) rfl rfl (Nat.le_of_ble_eq_true rfl) ?_
  intro p e s m below meth c hr hnm C I ls hl
  have hl : lv_has ls 2 [(0, .ref (ad 0 0)), (1, .int p0)] := hl
  refine lv_iload_n C.1 C.2.1 dX4_isHolder_0 rfl (lv_at hl 1 rfl) ?_
  refine lv_iconst (v := 0) C.1 C.2.1 dX4_isHolder_1 (by decide) ?_
  refine lv_aload_n C.1 C.2.1 dX4_isHolder_2 rfl (lv_at hl 0 rfl) ?_
  refine hv_get (ci := 5) (Cn := RX4) (T := TX4) (N := 6) (ref := "DividendDesk") (v := .ref (ad 2 0)) C I (isD_0 hD) wX4 rfl 2 (by decide) (by decide +kernel) (fun _ h9 => h9) rfl dX4_isHolder_3 ?_
  refine hv_ki I (va_runV (As := []) (rest := [.int 0, .int p0]) C.fix (c_L_size l G h _ (isD_20 hD)) (cwV 0 C.2.2.2.2.1 gX4_isHolder_Jx4a65c_size_8abf5 rfl rfl rfl (by decide +kernel) ⟨Nat.le_of_ble_eq_true rfl, Nat.le_of_ble_eq_true rfl⟩) (hv_preV C I (isD_20 hD) (r := (RJx4a65c, TJx4a65c, 3)) rfl) rfl rfl hl.1 rfl (lv_room (Nat.le_of_ble_eq_true rfl)) dX4_isHolder_6 ⟨Nat.le_of_ble_eq_true rfl, Nat.le_of_ble_eq_true rfl⟩) (fun ru_1 u_1 H locs pu_1 I => ?_)
  obtain ⟨e1, e2⟩ := pu_1; have e1 := e1.symm; subst e1; have e2 := e2.symm; subst e2
  refine lv_iconst (v := 1) C.1 C.2.1 dX4_isHolder_9 (by decide) ?_
  refine lv_isub C.1 C.2.1 dX4_isHolder_10 ?_
  refine hv_ki I (va_runS (As := [.int p0, .int 0, .int ((nI n) - 1)]) (rest := []) C.fix (c_X4_isWithin l G h _ p0 0 ((nI n) - 1)) (va_cwS 3 C.2.2.2.2.1 gX4_isHolder_X4_isWithin rfl rfl rfl (by decide +kernel) ⟨Nat.le_of_ble_eq_true rfl, Nat.le_of_ble_eq_true rfl⟩) (hv_preS C I) rfl rfl hl.1 rfl (lv_room (Nat.le_of_ble_eq_true rfl)) dX4_isHolder_11 ⟨Nat.le_of_ble_eq_true rfl, Nat.le_of_ble_eq_true rfl⟩) (fun ru_2 u_2 H locs pu_2 I => ?_)
  obtain ⟨e1, e2⟩ := pu_2; have e1 := e1.symm; subst e1; have e2 := e2.symm; subst e2
  exact hv_zret (v := (iw p0 0 ((nI n) - 1))) C hr I (iw_bool _ _ _) (⟨rfl, rfl⟩) dX4_isHolder_14 (Nat.le_of_ble_eq_true rfl) (Nat.le_of_ble_eq_true rfl)

set_option maxHeartbeats 4000000 in
set_option maxRecDepth 100000 in
theorem c_X4_holderAt (l : Launch) (hlt : l.stackTraces = false) (G : hv_G) (h : hv) (sz : Nat) {ad : Nat → Nat → Nat} {n d dl : Nat} {dy : Int32} {rf : Int64} {ar : Nat → Nat → Int32} {fm : Nat → Int32} {po : Nat → List (Int32 × Int32 × Int32)} (hD : isD G h ad n d dl dy rf ar fm po) (p0 : Int32) (hn : n ≤ 20) : hv_Xq l yX4_holderAt wsX4_holderAt 6 150 1 6 G h sz [.ref (ad 0 0), .int p0] (fun r u => u = h ∧ ∃ j, j < n ∧ p0 = nI j ∧ r = some (ad 4 j)) (fun E u => E = "java/lang/IndexOutOfBoundsException" ∧ u = h ∧ iw p0 0 (nI n - 1) = 0) := by
  have wX4 : ∀ w ∈ wsX40, w ∈ wsX4_holderAt := by decide +kernel
  refine hv_enterX (y := yX4_holderAt) (avs := [.ref (ad 0 0), .int p0]) (maxL := 2) (Qf := fun sz => va_Qq (fun r u => u = h ∧ ∃ j, j < n ∧ p0 = nI j ∧ r = some (ad 4 j)) (hv_Bq G h sz) (hv_A h sz)) (XC := fun sz => hv_X G h sz (fun E u => E = "java/lang/IndexOutOfBoundsException" ∧ u = h ∧ iw p0 0 (nI n - 1) = 0)) (by decide) rfl rfl (Nat.le_of_ble_eq_true rfl) ?_
  intro p e s m below meth c hr ht C I ls hl
  have hl : lv_has ls 2 [(0, .ref (ad 0 0)), (1, .int p0)] := hl
  refine lv_aload_n C.1 C.2.1 dX4_holderAt_0 rfl (lv_at hl 0 rfl) ?_
  refine lv_iload_n C.1 C.2.1 dX4_holderAt_1 rfl (lv_at hl 1 rfl) ?_
  refine hv_ki I (va_runV (As := [.int p0]) (rest := []) C.fix (c_X4_isHolder l G h _ hD p0) (cwV 1 C.2.2.2.2.1 gX4_holderAt_X4_isHolder rfl rfl rfl (by decide +kernel) ⟨Nat.le_of_ble_eq_true rfl, Nat.le_of_ble_eq_true rfl⟩) (hv_preV C I (isD_0 hD) (r := (RX4, TX4, 6)) rfl) rfl rfl hl.1 rfl (lv_room (Nat.le_of_ble_eq_true rfl)) dX4_holderAt_2 ⟨Nat.le_of_ble_eq_true rfl, Nat.le_of_ble_eq_true rfl⟩) (fun ru_1 u_1 H locs pu_1 I => ?_)
  obtain ⟨e1, e2⟩ := pu_1; have e1 := e1.symm; subst e1; have e2 := e2.symm; subst e2
  refine lv_if_ne (tgt := 18) C.1 C.2.1 dX4_holderAt_5 (by decide) (fun c5 => ?_) (fun c5 => ?_)
  · obtain ⟨j, hj, ej⟩ := iwh_ex (by omega) c5
    refine lv_aload_n C.1 C.2.1 dX4_holderAt_18 rfl (lv_at hl 0 rfl) ?_
    refine hv_get (ci := 5) (Cn := RX4) (T := TX4) (N := 6) (ref := "DividendDesk") (v := .ref (ad 2 0)) C I (isD_0 hD) wX4 rfl 2 (by decide) (by decide +kernel) (fun _ h9 => h9) rfl dX4_holderAt_19 ?_
    refine lv_iload_n C.1 C.2.1 dX4_holderAt_22 rfl (lv_at hl 1 rfl) ?_
    refine lv_topi (fun z_2 ez_2 => ?_)
    have ez_2 : z_2 = nI j := by rw [ez_2]; exact ej
    subst ez_2
    refine hv_kq I (va_runV (As := [.int (nI j)]) (rest := []) C.fix (c_L_get l G h _ (isD_20 hD) (isD_30 hD (Nat.ne_zero_of_lt hj)) hj (by omega)) (cwV 1 C.2.2.2.2.1 gX4_holderAt_Jx4a65c_get_915e3 rfl rfl rfl (by decide +kernel) ⟨Nat.le_of_ble_eq_true rfl, Nat.le_of_ble_eq_true rfl⟩) (hv_preV C I (isD_20 hD) (r := (RJx4a65c, TJx4a65c, 3)) rfl) rfl rfl hl.1 rfl (lv_room (Nat.le_of_ble_eq_true rfl)) dX4_holderAt_23 ⟨Nat.le_of_ble_eq_true rfl, Nat.le_of_ble_eq_true rfl⟩) (fun ru_3 u_3 H locs pu_3 I => ?_)
    obtain ⟨e1, e2⟩ := pu_3; have e1 := e1.symm; subst e1; have e2 := e2.symm; subst e2
    refine hv_cast C I (isD_4 hD hj) (r := (RX1, TX1, 6)) rfl (by decide +kernel) dX4_holderAt_26 ?_
    exact vx_ret (hv_qret (r := some (ad 4 j)) C hr (Or.inl ⟨_, rfl⟩) I (⟨rfl, j, hj, ej, rfl⟩) dX4_holderAt_29 (Nat.le_of_ble_eq_true rfl) (Nat.le_of_ble_eq_true rfl))
  · exact hv_throw (cls := "java/lang/IndexOutOfBoundsException") (text := "no such holder") (names := ["java/lang/RuntimeException", "java/lang/Exception"]) (ik := 182) (is := 184) (ic := 186) C ht I hlt hl.1 (by decide +kernel) (by decide +kernel) (by decide +kernel) (by decide +kernel) (by decide +kernel) (by decide +kernel) (by decide +kernel) (by decide +kernel) dX4_holderAt_8 dX4_holderAt_11 dX4_holderAt_12 dX4_holderAt_14 dX4_holderAt_17 (by decide) (by decide) (Nat.le_of_ble_eq_true rfl) (Nat.le_of_ble_eq_true rfl) (⟨rfl, rfl, c5⟩) (Nat.le_of_ble_eq_true rfl) (Nat.le_of_ble_eq_true rfl)

set_option maxHeartbeats 4000000 in
set_option maxRecDepth 100000 in
theorem c_X4_rateOf (l : Launch) (G : hv_G) (h : hv) (sz : Nat) {a b mp : Nat} {f : Nat → Int32} (fr : h a = some (.inl (G.2.1 0, 6, .inl f))) {kd ld sh fe es : Int32} (fa : h b = some (.inr (2, [.int kd, .int ld, .ref mp, .int sh, .int fe, .int es]))) : hv_Mi l yX4_rateOf wsX4_rateOf 2 60 0 0 G h sz [.ref a, .ref b] (fun r u => u = h ∧ r = rD f ld) := by
  have wX1 : ∀ w ∈ wsX10, w ∈ wsX4_rateOf := by decide +kernel
  refine hv_enter (y := yX4_rateOf) (avs := [.ref a, .ref b]) (maxL := 2) (Qf := fun sz => va_Qi (fun r u => u = h ∧ r = rD f ld) (hv_Bq G h sz) (hv_A h sz)) (by decide) rfl rfl (Nat.le_of_ble_eq_true rfl) ?_
  intro p e s m below meth c hr hnm C I ls hl
  have hl : lv_has ls 2 [(0, .ref a), (1, .ref b)] := hl
  refine lv_aload_n C.1 C.2.1 dX4_rateOf_0 rfl (lv_at hl 1 rfl) ?_
  refine hv_getN (ci := 2) (Cn := RX1) (T := TX1) (N := 6) (ref := "DividendDesk$Holder") (host := "DividendDesk") (v := .int ld) C I fa wX1 rfl 1 (by decide) (by decide +kernel) (fun _ h9 => h9) rfl dX4_rateOf_1 ?_
  refine hv_ki I (va_runS (As := [.int ld]) (rest := []) C.fix (c_X4_isLand l G h _ ld) (va_cwS 1 C.2.2.2.2.1 gX4_rateOf_X4_isLand rfl rfl rfl (by decide +kernel) ⟨Nat.le_of_ble_eq_true rfl, Nat.le_of_ble_eq_true rfl⟩) (hv_preS C I) rfl rfl hl.1 rfl (lv_room (Nat.le_of_ble_eq_true rfl)) dX4_rateOf_4 ⟨Nat.le_of_ble_eq_true rfl, Nat.le_of_ble_eq_true rfl⟩) (fun ru_1 u_1 H locs pu_1 I => ?_)
  obtain ⟨e1, e2⟩ := pu_1; have e1 := e1.symm; subst e1; have e2 := e2.symm; subst e2
  refine lv_if_eq (tgt := 28) C.1 C.2.1 dX4_rateOf_7 (by decide) (fun c7 => ?_) (fun c7 => ?_)
  · refine lv_bipush (v := 30) C.1 C.2.1 dX4_rateOf_28 (by decide) ?_
    exact hv_iret (v := 30) C hr I (⟨rfl, by unfold rD; first | (simp [c7]; done) | ((repeat' split) <;> first | rfl | contradiction)⟩) dX4_rateOf_30 (Nat.le_of_ble_eq_true rfl) (Nat.le_of_ble_eq_true rfl)
  · refine lv_aload_n C.1 C.2.1 dX4_rateOf_10 rfl (lv_at hl 1 rfl) ?_
    refine hv_getN (ci := 2) (Cn := RX1) (T := TX1) (N := 6) (ref := "DividendDesk$Holder") (host := "DividendDesk") (v := .int ld) C I fa wX1 rfl 1 (by decide) (by decide +kernel) (fun _ h9 => h9) rfl dX4_rateOf_11 ?_
    refine lv_aload_n C.1 C.2.1 dX4_rateOf_14 rfl (lv_at hl 0 rfl) ?_
    refine hv_alen (v := 6) C I fr 0 rfl rfl dX4_rateOf_15 ?_
    refine lv_icmp_ge (tgt := 28) C.1 C.2.1 dX4_rateOf_16 (by decide) (fun c16 => ?_) (fun c16 => ?_)
    · exact absurd c16 (hv_not6 c7)
    · refine lv_aload_n C.1 C.2.1 dX4_rateOf_19 rfl (lv_at hl 0 rfl) ?_
      refine lv_aload_n C.1 C.2.1 dX4_rateOf_20 rfl (lv_at hl 1 rfl) ?_
      refine hv_getN (ci := 2) (Cn := RX1) (T := TX1) (N := 6) (ref := "DividendDesk$Holder") (host := "DividendDesk") (v := .int ld) C I fa wX1 rfl 1 (by decide) (by decide +kernel) (fun _ h9 => h9) rfl dX4_rateOf_21 ?_
      refine hv_iald C I fr (iw_vp (k := 5) (by decide) c7) dX4_rateOf_24 ?_
      refine lv_goto (tgt := 30) C.1 C.2.1 dX4_rateOf_25 (by decide) ?_
      exact hv_iret (v := (f ld.toNatClampNeg)) C hr I (⟨rfl, by unfold rD; first | (simp [c7]; done) | ((repeat' split) <;> first | rfl | contradiction)⟩) dX4_rateOf_30 (Nat.le_of_ble_eq_true rfl) (Nat.le_of_ble_eq_true rfl)

set_option maxHeartbeats 4000000 in
set_option maxRecDepth 100000 in
theorem c_X4_ownRate (l : Launch) (G : hv_G) (h : hv) (sz : Nat) {ad : Nat → Nat → Nat} {n d dl : Nat} {dy : Int32} {rf : Int64} {ar : Nat → Nat → Int32} {fm : Nat → Int32} {po : Nat → List (Int32 × Int32 × Int32)} (hD : isD G h ad n d dl dy rf ar fm po) (j : Nat) (hj : j < n) : hv_Mi l yX4_ownRate wsX4_ownRate 3 100 0 0 G h sz [.ref (ad 0 0), .ref (ad 4 j)] (fun r u => u = h ∧ r = ownF (rD (ar 1) (ar 5 j)) (rD (ar 2) (ar 5 j)) (hlg (ar 4 j) (ar 6 j) (ar 8 j) dy)) := by
  have wX4 : ∀ w ∈ wsX40, w ∈ wsX4_ownRate := by decide +kernel
  refine hv_enter (y := yX4_ownRate) (avs := [.ref (ad 0 0), .ref (ad 4 j)]) (maxL := 3) (Qf := fun sz => va_Qi (fun r u => u = h ∧ r = ownF (rD (ar 1) (ar 5 j)) (rD (ar 2) (ar 5 j)) (hlg (ar 4 j) (ar 6 j) (ar 8 j) dy)) (hv_Bq G h sz) (hv_A h sz)) (by decide) rfl rfl (Nat.le_of_ble_eq_true rfl) ?_
  intro p e s m below meth c hr hnm C I ls hl
  have hl : lv_has ls 3 [(0, .ref (ad 0 0)), (1, .ref (ad 4 j))] := hl
  refine lv_aload_n C.1 C.2.1 dX4_ownRate_0 rfl (lv_at hl 0 rfl) ?_
  refine hv_get (ci := 5) (Cn := RX4) (T := TX4) (N := 6) (ref := "DividendDesk") (v := .ref (ad 1 0)) C I (isD_0 hD) wX4 rfl 0 (by decide) (by decide +kernel) (fun _ h9 => h9) rfl dX4_ownRate_1 ?_
  refine lv_aload_n C.1 C.2.1 dX4_ownRate_4 rfl (lv_at hl 1 rfl) ?_
  refine hv_ki I (va_runS (As := [.ref (ad 1 0), .ref (ad 4 j)]) (rest := []) C.fix (c_X4_rateOf l G h _ (isD_10 hD) (isD_4 hD hj)) (va_cwS 2 C.2.2.2.2.1 gX4_ownRate_X4_rateOf rfl rfl rfl (by decide +kernel) ⟨Nat.le_of_ble_eq_true rfl, Nat.le_of_ble_eq_true rfl⟩) (hv_preS C I) rfl rfl hl.1 rfl (lv_room (Nat.le_of_ble_eq_true rfl)) dX4_ownRate_5 ⟨Nat.le_of_ble_eq_true rfl, Nat.le_of_ble_eq_true rfl⟩) (fun ru_1 u_1 H locs pu_1 I => ?_)
  obtain ⟨e1, e2⟩ := pu_1; have e1 := e1.symm; subst e1; have e2 := e2.symm; subst e2
  refine lv_istore_n (lv' := [(2, .int (rD (ar 1) ((ar 5) j))), (0, .ref (ad 0 0)), (1, .ref (ad 4 j))]) C.1 C.2.1 dX4_ownRate_8 rfl hl (by decide) rfl (fun ls hl => ?_)
  refine lv_aload_n C.1 C.2.1 dX4_ownRate_9 rfl (lv_at hl 2 rfl) ?_
  refine lv_aload_n C.1 C.2.1 dX4_ownRate_10 rfl (lv_at hl 1 rfl) ?_
  refine hv_get (ci := 5) (Cn := RX4) (T := TX4) (N := 6) (ref := "DividendDesk") (v := .int dy) C I (isD_0 hD) wX4 rfl 4 (by decide) (by decide +kernel) (fun _ h9 => h9) rfl dX4_ownRate_11 ?_
  refine hv_ki I (va_runVN (As := [.int dy]) (rest := []) C.fix (c_X1_hasLargeHoldingOn l G h _ (isD_4 hD hj) dy) ⟨va_cnB 1 C.2.2.2.2.1 gX4_ownRate_X1_hasLargeHoldingOn_n116 rfl rfl rfl (C.nw (w := .methodLinkNest RX4 116 yX1_hasLargeHoldingOn "DividendDesk") (by decide +kernel)) (C.ts (by decide +kernel)) (by decide +kernel) ⟨Nat.le_of_ble_eq_true rfl, Nat.le_of_ble_eq_true rfl⟩, C.ts (by decide +kernel), C.ts (by decide +kernel)⟩ (hv_preV C I (isD_4 hD hj) (r := (RX1, TX1, 6)) rfl) rfl rfl hl.1 rfl (lv_room (Nat.le_of_ble_eq_true rfl)) dX4_ownRate_14 ⟨Nat.le_of_ble_eq_true rfl, Nat.le_of_ble_eq_true rfl⟩) (fun ru_2 u_2 H locs pu_2 I => ?_)
  obtain ⟨e1, e2⟩ := pu_2; have e1 := e1.symm; subst e1; have e2 := e2.symm; subst e2
  refine lv_if_ne (tgt := 22) C.1 C.2.1 dX4_ownRate_17 (by decide) (fun c17 => ?_) (fun c17 => ?_)
  · refine lv_iload_n C.1 C.2.1 dX4_ownRate_22 rfl (lv_at hl 0 rfl) ?_
    refine lv_aload_n C.1 C.2.1 dX4_ownRate_23 rfl (lv_at hl 1 rfl) ?_
    refine hv_get (ci := 5) (Cn := RX4) (T := TX4) (N := 6) (ref := "DividendDesk") (v := .ref (ad 1 1)) C I (isD_0 hD) wX4 rfl 1 (by decide) (by decide +kernel) (fun _ h9 => h9) rfl dX4_ownRate_24 ?_
    refine lv_aload_n C.1 C.2.1 dX4_ownRate_27 rfl (lv_at hl 2 rfl) ?_
    refine hv_ki I (va_runS (As := [.ref (ad 1 1), .ref (ad 4 j)]) (rest := [.int (rD (ar 1) ((ar 5) j))]) C.fix (c_X4_rateOf l G h _ (isD_11 hD) (isD_4 hD hj)) (va_cwS 2 C.2.2.2.2.1 gX4_ownRate_X4_rateOf rfl rfl rfl (by decide +kernel) ⟨Nat.le_of_ble_eq_true rfl, Nat.le_of_ble_eq_true rfl⟩) (hv_preS C I) rfl rfl hl.1 rfl (lv_room (Nat.le_of_ble_eq_true rfl)) dX4_ownRate_28 ⟨Nat.le_of_ble_eq_true rfl, Nat.le_of_ble_eq_true rfl⟩) (fun ru_3 u_3 H locs pu_3 I => ?_)
    obtain ⟨e1, e2⟩ := pu_3; have e1 := e1.symm; subst e1; have e2 := e2.symm; subst e2
    refine va_mmin C.1 C.2.1 (C.2.2.1.trans hl.1.symm) C.2.2.2.1 (C.ts (w := .methodLink RX4 208 Lib.Math.min.name) (by decide +kernel)) (C.ts (by decide +kernel)) (C.ts (by decide +kernel)) (C.ts (by decide +kernel)) (Nat.le_of_ble_eq_true rfl) (Nat.le_of_ble_eq_true rfl) (Nat.le_of_ble_eq_true rfl) (Nat.le_of_ble_eq_true rfl) dX4_ownRate_31 ?_
    exact hv_iret (v := (if (rD (ar 2) ((ar 5) j)) < (rD (ar 1) ((ar 5) j)) then (rD (ar 2) ((ar 5) j)) else (rD (ar 1) ((ar 5) j)))) C hr I (⟨rfl, by unfold ownF; rw [if_neg c17]⟩) dX4_ownRate_34 (Nat.le_of_ble_eq_true rfl) (Nat.le_of_ble_eq_true rfl)
  · refine lv_iload_n C.1 C.2.1 dX4_ownRate_20 rfl (lv_at hl 0 rfl) ?_
    exact hv_iret (v := (rD (ar 1) ((ar 5) j))) C hr I (⟨rfl, by unfold ownF; rw [if_pos c17]⟩) dX4_ownRate_21 (Nat.le_of_ble_eq_true rfl) (Nat.le_of_ble_eq_true rfl)

set_option maxHeartbeats 4000000 in
set_option maxRecDepth 100000 in
theorem c_X4_sharesInAll (l : Launch) (G : hv_G) (h : hv) (sz : Nat) {ad : Nat → Nat → Nat} {n d dl : Nat} {dy : Int32} {rf : Int64} {ar : Nat → Nat → Int32} {fm : Nat → Int32} {po : Nat → List (Int32 × Int32 × Int32)} (hD : isD G h ad n d dl dy rf ar fm po) (hn : n ≤ 20) : hv_Mi l yX4_sharesInAll wsX4_sharesInAll 3 100 0 0 G h sz [.ref (ad 0 0)] (fun r u => u = h ∧ r = l_sum (ar 6) n) := by
  have wX1 : ∀ w ∈ wsX10, w ∈ wsX4_sharesInAll := by decide +kernel
  have wX4 : ∀ w ∈ wsX40, w ∈ wsX4_sharesInAll := by decide +kernel
  refine hv_enter (y := yX4_sharesInAll) (avs := [.ref (ad 0 0)]) (maxL := 3) (Qf := fun sz => va_Qi (fun r u => u = h ∧ r = l_sum (ar 6) n) (hv_Bq G h sz) (hv_A h sz)) (by decide) rfl rfl (Nat.le_of_ble_eq_true rfl) ?_
  intro p e s m below meth c hr hnm C I ls hl
  have hl : lv_has ls 3 [(0, .ref (ad 0 0))] := hl
  refine lv_iconst (v := 0) C.1 C.2.1 dX4_sharesInAll_0 (by decide) ?_
  refine lv_istore_n (lv' := [(1, .int 0), (0, .ref (ad 0 0))]) C.1 C.2.1 dX4_sharesInAll_1 rfl hl (by decide) rfl (fun ls hl => ?_)
  refine lv_iconst (v := 0) C.1 C.2.1 dX4_sharesInAll_2 (by decide) ?_
  refine lv_istore_n (lv' := [(2, .int 0), (1, .int 0), (0, .ref (ad 0 0))]) C.1 C.2.1 dX4_sharesInAll_3 rfl hl (by decide) rfl (fun ls hl => ?_)
  have loop : ∀ (k9 i : Nat) , i ≤ n → n + 1 ≤ i + k9 → ∀ (H : Heap) (locs : List Loc), hv_I G h s h H locs → ∀ ls : Array Slot, lv_has ls 3 [(2, .int (nI i)), (1, .int (l_sum (ar 6) i)), (0, .ref (ad 0 0))] → W p l e (hv_rm 3 0 0 100) s m (([.ref (ad 0 0)] : List Value).toArray) below meth c H locs 0 0 (MQ below (va_Qi (fun r u => u = h ∧ r = l_sum (ar 6) n) (hv_Bq G h s.heap.size) (hv_A h s.heap.size)) (([.ref (ad 0 0)] : List Value).toArray) s 0 0 (hv_A h s.heap.size)) (F0 m 4 ls []) := by
    intro k9
    induction k9 with
    | zero => intro i hi hin; exact absurd hin (by omega)
    | succ k9 ih =>
      intro i hi hin H locs I ls hl
      refine lv_iload_n C.1 C.2.1 dX4_sharesInAll_4 rfl (lv_at hl 0 rfl) ?_
      refine lv_aload_n C.1 C.2.1 dX4_sharesInAll_5 rfl (lv_at hl 2 rfl) ?_
      refine hv_get (ci := 5) (Cn := RX4) (T := TX4) (N := 6) (ref := "DividendDesk") (v := .ref (ad 2 0)) C I (isD_0 hD) wX4 rfl 2 (by decide) (by decide +kernel) (fun _ h9 => h9) rfl dX4_sharesInAll_6 ?_
      refine hv_ki I (va_runV (As := []) (rest := [.int (nI i)]) C.fix (c_L_size l G h _ (isD_20 hD)) (cwV 0 C.2.2.2.2.1 gX4_sharesInAll_Jx4a65c_size_8abf5 rfl rfl rfl (by decide +kernel) ⟨Nat.le_of_ble_eq_true rfl, Nat.le_of_ble_eq_true rfl⟩) (hv_preV C I (isD_20 hD) (r := (RJx4a65c, TJx4a65c, 3)) rfl) rfl rfl hl.1 rfl (lv_room (Nat.le_of_ble_eq_true rfl)) dX4_sharesInAll_9 ⟨Nat.le_of_ble_eq_true rfl, Nat.le_of_ble_eq_true rfl⟩) (fun ru_1 u_1 H locs pu_1 I => ?_)
      obtain ⟨e1, e2⟩ := pu_1; have e1 := e1.symm; subst e1; have e2 := e2.symm; subst e2
      refine lv_icmp_ge (tgt := 38) C.1 C.2.1 dX4_sharesInAll_12 (by decide) (fun c12 => ?_) (fun c12 => ?_)
      · have hi12 : i = n := Nat.le_antisymm hi (hv_leN (by omega) (by omega) c12)
        refine lv_iload_n C.1 C.2.1 dX4_sharesInAll_38 rfl (lv_at hl 1 rfl) ?_
        exact hv_iret (v := (l_sum (ar 6) i)) C hr I (⟨rfl, by rw [hi12]⟩) dX4_sharesInAll_39 (Nat.le_of_ble_eq_true rfl) (Nat.le_of_ble_eq_true rfl)
      · have hi12 : i < n := hv_ltN (by omega) (by omega) c12
        refine lv_iload_n C.1 C.2.1 dX4_sharesInAll_15 rfl (lv_at hl 1 rfl) ?_
        refine lv_aload_n C.1 C.2.1 dX4_sharesInAll_16 rfl (lv_at hl 2 rfl) ?_
        refine hv_get (ci := 5) (Cn := RX4) (T := TX4) (N := 6) (ref := "DividendDesk") (v := .ref (ad 2 0)) C I (isD_0 hD) wX4 rfl 2 (by decide) (by decide +kernel) (fun _ h9 => h9) rfl dX4_sharesInAll_17 ?_
        refine lv_iload_n C.1 C.2.1 dX4_sharesInAll_20 rfl (lv_at hl 0 rfl) ?_
        refine hv_kq I (va_runV (As := [.int (nI i)]) (rest := [.int (l_sum (ar 6) i)]) C.fix (c_L_get l G h _ (isD_20 hD) (isD_30 hD (Nat.ne_zero_of_lt hi12)) hi12 (by omega)) (cwV 1 C.2.2.2.2.1 gX4_sharesInAll_Jx4a65c_get_915e3 rfl rfl rfl (by decide +kernel) ⟨Nat.le_of_ble_eq_true rfl, Nat.le_of_ble_eq_true rfl⟩) (hv_preV C I (isD_20 hD) (r := (RJx4a65c, TJx4a65c, 3)) rfl) rfl rfl hl.1 rfl (lv_room (Nat.le_of_ble_eq_true rfl)) dX4_sharesInAll_21 ⟨Nat.le_of_ble_eq_true rfl, Nat.le_of_ble_eq_true rfl⟩) (fun ru_2 u_2 H locs pu_2 I => ?_)
        obtain ⟨e1, e2⟩ := pu_2; have e1 := e1.symm; subst e1; have e2 := e2.symm; subst e2
        refine hv_cast C I (isD_4 hD hi12) (r := (RX1, TX1, 6)) rfl (by decide +kernel) dX4_sharesInAll_24 ?_
        refine hv_getN (ci := 2) (Cn := RX1) (T := TX1) (N := 6) (ref := "DividendDesk$Holder") (host := "DividendDesk") (v := .int ((ar 6) i)) C I (isD_4 hD hi12) wX1 rfl 3 (by decide) (by decide +kernel) (fun _ h9 => h9) rfl dX4_sharesInAll_27 ?_
        refine lv_iadd C.1 C.2.1 dX4_sharesInAll_30 ?_
        refine lv_topi (fun z_3 ez_3 => ?_)
        have ez_3 : z_3 = l_sum (ar 6) (i + 1) := by rw [ez_3]; rfl
        subst ez_3
        refine lv_istore_n (lv' := [(1, .int (l_sum (ar 6) (i + 1))), (2, .int (nI i)), (0, .ref (ad 0 0))]) C.1 C.2.1 dX4_sharesInAll_31 rfl hl (by decide) rfl (fun ls hl => ?_)
        refine lv_iinc (v := nI (i + 1)) (lv' := [(2, .int (nI (i + 1))), (1, .int (l_sum (ar 6) (i + 1))), (0, .ref (ad 0 0))]) C.1 C.2.1 dX4_sharesInAll_32 hl (k := 1) rfl (nI_1 i) (by decide) rfl (fun ls hl => ?_)
        refine lv_goto (tgt := 4) C.1 C.2.1 dX4_sharesInAll_35 (by decide) ?_
        exact ih (i + 1) (by omega) (by omega)  _ _ I ls (lv_sub hl [0, 1, 2] rfl)
  exact loop (n + 1) 0 (Nat.zero_le _) (by omega) _ _ I ls (lv_sub hl [0, 1, 2] rfl)

set_option maxHeartbeats 4000000 in
set_option maxRecDepth 100000 in
theorem c_X4_validForms (l : Launch) (G : hv_G) (h : hv) (sz : Nat) {ad : Nat → Nat → Nat} {n d dl : Nat} {dy : Int32} {rf : Int64} {ar : Nat → Nat → Int32} {fm : Nat → Int32} {po : Nat → List (Int32 × Int32 × Int32)} (hD : isD G h ad n d dl dy rf ar fm po) (hn : n ≤ 20) : hv_Mi l yX4_validForms wsX4_validForms 3 100 0 0 G h sz [.ref (ad 0 0)] (fun r u => u = h ∧ r = vfm dy (ar 7) n) := by
  have wX4 : ∀ w ∈ wsX40, w ∈ wsX4_validForms := by decide +kernel
  refine hv_enter (y := yX4_validForms) (avs := [.ref (ad 0 0)]) (maxL := 3) (Qf := fun sz => va_Qi (fun r u => u = h ∧ r = vfm dy (ar 7) n) (hv_Bq G h sz) (hv_A h sz)) (by decide) rfl rfl (Nat.le_of_ble_eq_true rfl) ?_
  intro p e s m below meth c hr hnm C I ls hl
  have hl : lv_has ls 3 [(0, .ref (ad 0 0))] := hl
  refine lv_iconst (v := 0) C.1 C.2.1 dX4_validForms_0 (by decide) ?_
  refine lv_istore_n (lv' := [(1, .int 0), (0, .ref (ad 0 0))]) C.1 C.2.1 dX4_validForms_1 rfl hl (by decide) rfl (fun ls hl => ?_)
  refine lv_iconst (v := 0) C.1 C.2.1 dX4_validForms_2 (by decide) ?_
  refine lv_istore_n (lv' := [(2, .int 0), (1, .int 0), (0, .ref (ad 0 0))]) C.1 C.2.1 dX4_validForms_3 rfl hl (by decide) rfl (fun ls hl => ?_)
  have loop : ∀ (k9 i : Nat) , i ≤ n → n + 1 ≤ i + k9 → ∀ (H : Heap) (locs : List Loc), hv_I G h s h H locs → ∀ ls : Array Slot, lv_has ls 3 [(2, .int (nI i)), (1, .int (vfm dy (ar 7) i)), (0, .ref (ad 0 0))] → W p l e (hv_rm 3 0 0 100) s m (([.ref (ad 0 0)] : List Value).toArray) below meth c H locs 0 0 (MQ below (va_Qi (fun r u => u = h ∧ r = vfm dy (ar 7) n) (hv_Bq G h s.heap.size) (hv_A h s.heap.size)) (([.ref (ad 0 0)] : List Value).toArray) s 0 0 (hv_A h s.heap.size)) (F0 m 4 ls []) := by
    intro k9
    induction k9 with
    | zero => intro i hi hin; exact absurd hin (by omega)
    | succ k9 ih =>
      intro i hi hin H locs I ls hl
      refine lv_iload_n C.1 C.2.1 dX4_validForms_4 rfl (lv_at hl 0 rfl) ?_
      refine lv_aload_n C.1 C.2.1 dX4_validForms_5 rfl (lv_at hl 2 rfl) ?_
      refine hv_get (ci := 5) (Cn := RX4) (T := TX4) (N := 6) (ref := "DividendDesk") (v := .ref (ad 2 0)) C I (isD_0 hD) wX4 rfl 2 (by decide) (by decide +kernel) (fun _ h9 => h9) rfl dX4_validForms_6 ?_
      refine hv_ki I (va_runV (As := []) (rest := [.int (nI i)]) C.fix (c_L_size l G h _ (isD_20 hD)) (cwV 0 C.2.2.2.2.1 gX4_validForms_Jx4a65c_size_8abf5 rfl rfl rfl (by decide +kernel) ⟨Nat.le_of_ble_eq_true rfl, Nat.le_of_ble_eq_true rfl⟩) (hv_preV C I (isD_20 hD) (r := (RJx4a65c, TJx4a65c, 3)) rfl) rfl rfl hl.1 rfl (lv_room (Nat.le_of_ble_eq_true rfl)) dX4_validForms_9 ⟨Nat.le_of_ble_eq_true rfl, Nat.le_of_ble_eq_true rfl⟩) (fun ru_1 u_1 H locs pu_1 I => ?_)
      obtain ⟨e1, e2⟩ := pu_1; have e1 := e1.symm; subst e1; have e2 := e2.symm; subst e2
      refine lv_icmp_ge (tgt := 49) C.1 C.2.1 dX4_validForms_12 (by decide) (fun c12 => ?_) (fun c12 => ?_)
      · have hi12 : i = n := Nat.le_antisymm hi (hv_leN (by omega) (by omega) c12)
        refine lv_iload_n C.1 C.2.1 dX4_validForms_49 rfl (lv_at hl 1 rfl) ?_
        exact hv_iret (v := (vfm dy (ar 7) i)) C hr I (⟨rfl, by rw [hi12]⟩) dX4_validForms_50 (Nat.le_of_ble_eq_true rfl) (Nat.le_of_ble_eq_true rfl)
      · have hi12 : i < n := hv_ltN (by omega) (by omega) c12
        refine lv_aload_n C.1 C.2.1 dX4_validForms_15 rfl (lv_at hl 2 rfl) ?_
        refine hv_get (ci := 5) (Cn := RX4) (T := TX4) (N := 6) (ref := "DividendDesk") (v := .ref (ad 2 0)) C I (isD_0 hD) wX4 rfl 2 (by decide) (by decide +kernel) (fun _ h9 => h9) rfl dX4_validForms_16 ?_
        refine lv_iload_n C.1 C.2.1 dX4_validForms_19 rfl (lv_at hl 0 rfl) ?_
        refine hv_kq I (va_runV (As := [.int (nI i)]) (rest := []) C.fix (c_L_get l G h _ (isD_20 hD) (isD_30 hD (Nat.ne_zero_of_lt hi12)) hi12 (by omega)) (cwV 1 C.2.2.2.2.1 gX4_validForms_Jx4a65c_get_915e3 rfl rfl rfl (by decide +kernel) ⟨Nat.le_of_ble_eq_true rfl, Nat.le_of_ble_eq_true rfl⟩) (hv_preV C I (isD_20 hD) (r := (RJx4a65c, TJx4a65c, 3)) rfl) rfl rfl hl.1 rfl (lv_room (Nat.le_of_ble_eq_true rfl)) dX4_validForms_20 ⟨Nat.le_of_ble_eq_true rfl, Nat.le_of_ble_eq_true rfl⟩) (fun ru_2 u_2 H locs pu_2 I => ?_)
        obtain ⟨e1, e2⟩ := pu_2; have e1 := e1.symm; subst e1; have e2 := e2.symm; subst e2
        refine hv_cast C I (isD_4 hD hi12) (r := (RX1, TX1, 6)) rfl (by decide +kernel) dX4_validForms_23 ?_
        refine lv_aload_n C.1 C.2.1 dX4_validForms_26 rfl (lv_at hl 2 rfl) ?_
        refine hv_get (ci := 5) (Cn := RX4) (T := TX4) (N := 6) (ref := "DividendDesk") (v := .int dy) C I (isD_0 hD) wX4 rfl 4 (by decide) (by decide +kernel) (fun _ h9 => h9) rfl dX4_validForms_27 ?_
        refine hv_ki I (va_runVN (As := [.int dy]) (rest := []) C.fix (c_X1_hasFormOn l G h _ (isD_4 hD hi12) dy) ⟨va_cnB 1 C.2.2.2.2.1 gX4_validForms_X1_hasFormOn_n113 rfl rfl rfl (C.nw (w := .methodLinkNest RX4 113 yX1_hasFormOn "DividendDesk") (by decide +kernel)) (C.ts (by decide +kernel)) (by decide +kernel) ⟨Nat.le_of_ble_eq_true rfl, Nat.le_of_ble_eq_true rfl⟩, C.ts (by decide +kernel), C.ts (by decide +kernel)⟩ (hv_preV C I (isD_4 hD hi12) (r := (RX1, TX1, 6)) rfl) rfl rfl hl.1 rfl (lv_room (Nat.le_of_ble_eq_true rfl)) dX4_validForms_30 ⟨Nat.le_of_ble_eq_true rfl, Nat.le_of_ble_eq_true rfl⟩) (fun ru_3 u_3 H locs pu_3 I => ?_)
        obtain ⟨e1, e2⟩ := pu_3; have e1 := e1.symm; subst e1; have e2 := e2.symm; subst e2
        refine lv_if_eq (tgt := 43) C.1 C.2.1 dX4_validForms_33 (by decide) (fun c33 => ?_) (fun c33 => ?_)
        · refine lv_iinc (v := nI (i + 1)) (lv' := [(2, .int (nI (i + 1))), (1, .int (vfm dy (ar 7) i)), (0, .ref (ad 0 0))]) C.1 C.2.1 dX4_validForms_43 hl (k := 0) rfl (nI_1 i) (by decide) rfl (fun ls hl => ?_)
          refine lv_goto (tgt := 4) C.1 C.2.1 dX4_validForms_46 (by decide) ?_
          exact ih (i + 1) (by omega) (by omega)  _ _ I ls (by rw [show vfm dy (ar 7) (i + 1) = vfm dy (ar 7) i from if_pos c33]; exact lv_sub hl [0, 1, 2] rfl)
        · refine lv_iload_n C.1 C.2.1 dX4_validForms_36 rfl (lv_at hl 1 rfl) ?_
          refine lv_iload_n C.1 C.2.1 dX4_validForms_37 rfl (lv_at hl 0 rfl) ?_
          refine hv_ki I (va_runS (As := [.int (nI i)]) (rest := [.int (vfm dy (ar 7) i)]) C.fix (c_X4_formOf l G h _ (nI i)) (va_cwS 1 C.2.2.2.2.1 gX4_validForms_X4_formOf rfl rfl rfl (by decide +kernel) ⟨Nat.le_of_ble_eq_true rfl, Nat.le_of_ble_eq_true rfl⟩) (hv_preS C I) rfl rfl hl.1 rfl (lv_room (Nat.le_of_ble_eq_true rfl)) dX4_validForms_38 ⟨Nat.le_of_ble_eq_true rfl, Nat.le_of_ble_eq_true rfl⟩) (fun ru_4 u_4 H locs pu_4 I => ?_)
          obtain ⟨e1, e2⟩ := pu_4; have e1 := e1.symm; subst e1; have e2 := e2.symm; subst e2
          refine lv_ior C.1 C.2.1 dX4_validForms_41 ?_
          refine lv_topi (fun z_5 ez_5 => ?_)
          have ez_5 : z_5 = vfm dy (ar 7) (i + 1) := by rw [ez_5]; exact (if_neg c33).symm
          subst ez_5
          refine lv_istore_n (lv' := [(1, .int (vfm dy (ar 7) (i + 1))), (2, .int (nI i)), (0, .ref (ad 0 0))]) C.1 C.2.1 dX4_validForms_42 rfl hl (by decide) rfl (fun ls hl => ?_)
          refine lv_iinc (v := nI (i + 1)) (lv' := [(2, .int (nI (i + 1))), (1, .int (vfm dy (ar 7) (i + 1))), (0, .ref (ad 0 0))]) C.1 C.2.1 dX4_validForms_43 hl (k := 1) rfl (nI_1 i) (by decide) rfl (fun ls hl => ?_)
          refine lv_goto (tgt := 4) C.1 C.2.1 dX4_validForms_46 (by decide) ?_
          exact ih (i + 1) (by omega) (by omega)  _ _ I ls (lv_sub hl [0, 1, 2] rfl)
  exact loop (n + 1) 0 (Nat.zero_le _) (by omega) _ _ I ls (lv_sub hl [0, 1, 2] rfl)

set_option maxHeartbeats 4000000 in
set_option maxRecDepth 100000 in
theorem c_X4_day (l : Launch) (G : hv_G) (h : hv) (sz : Nat) {ad : Nat → Nat → Nat} {n d dl : Nat} {dy : Int32} {rf : Int64} {ar : Nat → Nat → Int32} {fm : Nat → Int32} {po : Nat → List (Int32 × Int32 × Int32)} (hD : isD G h ad n d dl dy rf ar fm po) : hv_Mi l yX4_day wsX4_day 1 60 0 0 G h sz [.ref (ad 0 0)] (fun r u => u = h ∧ r = dy) := by
  have wX4 : ∀ w ∈ wsX40, w ∈ wsX4_day := by decide +kernel
  refine hv_enter (y := yX4_day) (avs := [.ref (ad 0 0)]) (maxL := 1) (Qf := fun sz => va_Qi (fun r u => u = h ∧ r = dy) (hv_Bq G h sz) (hv_A h sz)) (by decide) rfl rfl (Nat.le_of_ble_eq_true rfl) ?_
  intro p e s m below meth c hr hnm C I ls hl
  have hl : lv_has ls 1 [(0, .ref (ad 0 0))] := hl
  refine lv_aload_n C.1 C.2.1 dX4_day_0 rfl (lv_at hl 0 rfl) ?_
  refine hv_get (ci := 5) (Cn := RX4) (T := TX4) (N := 6) (ref := "DividendDesk") (v := .int dy) C I (isD_0 hD) wX4 rfl 4 (by decide) (by decide +kernel) (fun _ h9 => h9) rfl dX4_day_1 ?_
  exact hv_iret (v := dy) C hr I (⟨rfl, rfl⟩) dX4_day_4 (Nat.le_of_ble_eq_true rfl) (Nat.le_of_ble_eq_true rfl)

set_option maxHeartbeats 4000000 in
set_option maxRecDepth 100000 in
theorem c_X4_dividends (l : Launch) (G : hv_G) (h : hv) (sz : Nat) {ad : Nat → Nat → Nat} {n d dl : Nat} {dy : Int32} {rf : Int64} {ar : Nat → Nat → Int32} {fm : Nat → Int32} {po : Nat → List (Int32 × Int32 × Int32)} (hD : isD G h ad n d dl dy rf ar fm po) : hv_Mi l yX4_dividends wsX4_dividends 1 60 0 0 G h sz [.ref (ad 0 0)] (fun r u => u = h ∧ r = nI dl) := by
  have wX4 : ∀ w ∈ wsX40, w ∈ wsX4_dividends := by decide +kernel
  refine hv_enter (y := yX4_dividends) (avs := [.ref (ad 0 0)]) (maxL := 1) (Qf := fun sz => va_Qi (fun r u => u = h ∧ r = nI dl) (hv_Bq G h sz) (hv_A h sz)) (by decide) rfl rfl (Nat.le_of_ble_eq_true rfl) ?_
  intro p e s m below meth c hr hnm C I ls hl
  have hl : lv_has ls 1 [(0, .ref (ad 0 0))] := hl
  refine lv_aload_n C.1 C.2.1 dX4_dividends_0 rfl (lv_at hl 0 rfl) ?_
  refine hv_get (ci := 5) (Cn := RX4) (T := TX4) (N := 6) (ref := "DividendDesk") (v := .ref (ad 2 1)) C I (isD_0 hD) wX4 rfl 3 (by decide) (by decide +kernel) (fun _ h9 => h9) rfl dX4_dividends_1 ?_
  refine hv_ki I (va_runV (As := []) (rest := []) C.fix (c_L_size l G h _ (isD_21 hD)) (cwV 0 C.2.2.2.2.1 gX4_dividends_Jx4a65c_size_8abf5 rfl rfl rfl (by decide +kernel) ⟨Nat.le_of_ble_eq_true rfl, Nat.le_of_ble_eq_true rfl⟩) (hv_preV C I (isD_21 hD) (r := (RJx4a65c, TJx4a65c, 3)) rfl) rfl rfl hl.1 rfl (lv_room (Nat.le_of_ble_eq_true rfl)) dX4_dividends_4 ⟨Nat.le_of_ble_eq_true rfl, Nat.le_of_ble_eq_true rfl⟩) (fun ru_1 u_1 H locs pu_1 I => ?_)
  obtain ⟨e1, e2⟩ := pu_1; have e1 := e1.symm; subst e1; have e2 := e2.symm; subst e2
  exact hv_iret (v := (nI dl)) C hr I (⟨rfl, rfl⟩) dX4_dividends_7 (Nat.le_of_ble_eq_true rfl) (Nat.le_of_ble_eq_true rfl)

set_option maxHeartbeats 4000000 in
set_option maxRecDepth 100000 in
theorem c_X4_refunded (l : Launch) (G : hv_G) (h : hv) (sz : Nat) {ad : Nat → Nat → Nat} {n d dl : Nat} {dy : Int32} {rf : Int64} {ar : Nat → Nat → Int32} {fm : Nat → Int32} {po : Nat → List (Int32 × Int32 × Int32)} (hD : isD G h ad n d dl dy rf ar fm po) : hv_Ml l yX4_refunded wsX4_refunded 1 60 0 0 G h sz [.ref (ad 0 0)] (fun r u => u = h ∧ r = rf) := by
  have wX4 : ∀ w ∈ wsX40, w ∈ wsX4_refunded := by decide +kernel
  refine hv_enter (y := yX4_refunded) (avs := [.ref (ad 0 0)]) (maxL := 1) (Qf := fun sz => va_Ql (fun r u => u = h ∧ r = rf) (hv_Bq G h sz) (hv_A h sz)) (by decide) rfl rfl (Nat.le_of_ble_eq_true rfl) ?_
  intro p e s m below meth c hr hnm C I ls hl
  have hl : lv_has ls 1 [(0, .ref (ad 0 0))] := hl
  refine lv_aload_n C.1 C.2.1 dX4_refunded_0 rfl (lv_at hl 0 rfl) ?_
  refine hv_get (ci := 5) (Cn := RX4) (T := TX4) (N := 6) (ref := "DividendDesk") (v := .long rf) C I (isD_0 hD) wX4 rfl 5 (by decide) (by decide +kernel) (fun _ h9 => h9) rfl dX4_refunded_1 ?_
  exact hv_lret (v := rf) C hr I (⟨rfl, rfl⟩) dX4_refunded_4 (Nat.le_of_ble_eq_true rfl) (Nat.le_of_ble_eq_true rfl)

set_option maxHeartbeats 4000000 in
set_option maxRecDepth 100000 in
theorem c_X4_shares (l : Launch) (hlt : l.stackTraces = false) (G : hv_G) (h : hv) (sz : Nat) {ad : Nat → Nat → Nat} {n d dl : Nat} {dy : Int32} {rf : Int64} {ar : Nat → Nat → Int32} {fm : Nat → Int32} {po : Nat → List (Int32 × Int32 × Int32)} (hD : isD G h ad n d dl dy rf ar fm po) (p0 : Int32) (hn : n ≤ 20) : hv_Xi l yX4_shares wsX4_shares 8 200 2 12 G h sz [.ref (ad 0 0), .int p0] (fun r u => fAk p0 n = 0 ∧ u = h ∧ r = ar 6 p0.toNatClampNeg) (fun E u => u = h ∧ ((fAk p0 n = 1 ∧ E = "java/lang/IndexOutOfBoundsException"))) := by
  have wX1 : ∀ w ∈ wsX10, w ∈ wsX4_shares := by decide +kernel
  refine hv_enterX (y := yX4_shares) (avs := [.ref (ad 0 0), .int p0]) (maxL := 2) (Qf := fun sz => va_Qi (fun r u => fAk p0 n = 0 ∧ u = h ∧ r = ar 6 p0.toNatClampNeg) (hv_Bq G h sz) (hv_A h sz)) (XC := fun sz => hv_X G h sz (fun E u => u = h ∧ ((fAk p0 n = 1 ∧ E = "java/lang/IndexOutOfBoundsException")))) (by decide) rfl rfl (Nat.le_of_ble_eq_true rfl) ?_
  intro p e s m below meth c hr ht C I ls hl
  have hl : lv_has ls 2 [(0, .ref (ad 0 0)), (1, .int p0)] := hl
  refine lv_aload_n C.1 C.2.1 dX4_shares_0 rfl (lv_at hl 0 rfl) ?_
  refine lv_iload_n C.1 C.2.1 dX4_shares_1 rfl (lv_at hl 1 rfl) ?_
  refine hv_xkq I (vx_runV (As := [.int p0]) (rest := []) C.fix (c_X4_holderAt l hlt G h _ hD p0 hn) (cwV 1 C.2.2.2.2.1 gX4_shares_X4_holderAt rfl rfl rfl (by decide +kernel) ⟨Nat.le_of_ble_eq_true rfl, Nat.le_of_ble_eq_true rfl⟩) (hv_preV C I (isD_0 hD) (r := (RX4, TX4, 6)) rfl) rfl rfl hl.1 rfl (lv_room (Nat.le_of_ble_eq_true rfl)) dX4_shares_2 ⟨Nat.le_of_ble_eq_true rfl, Nat.le_of_ble_eq_true rfl⟩) (fun E ce q9 u H locs hpx I hq9 hv9 hcl9 => hv_xout C ht I hq9 hv9 hcl9 ((by obtain ⟨g1, g2, g3⟩ := hpx; exact ⟨g2, ⟨(by unfold fAk; simp [g3]), g1⟩⟩)) (Nat.le_of_ble_eq_true rfl) (Nat.le_of_ble_eq_true rfl)) (fun ru_1 u_1 H locs pu_1 I => ?_)
  obtain ⟨e1, j, hj, ej, e2⟩ := pu_1; have e1 := e1.symm; subst e1; have e2 := e2.symm; subst e2; subst ej
  have ij : iw (nI j) 0 (nI n - 1) = 1 := iwh_nI hj (by omega)
  have kj : (nI j).toNatClampNeg = j := nI_clamp (by omega)
  refine hv_getN (ci := 2) (Cn := RX1) (T := TX1) (N := 6) (ref := "DividendDesk$Holder") (host := "DividendDesk") (v := .int ((ar 6) j)) C I (isD_4 hD hj) wX1 rfl 3 (by decide) (by decide +kernel) (fun _ h9 => h9) rfl dX4_shares_5 ?_
  exact vx_ret (hv_iret (v := ((ar 6) j)) C hr I (⟨(by unfold fAk; first | (simp [ij, kj]; done) | ((repeat' split) <;> first | rfl | contradiction)), ⟨rfl, by rw [kj]⟩⟩) dX4_shares_8 (Nat.le_of_ble_eq_true rfl) (Nat.le_of_ble_eq_true rfl))

set_option maxHeartbeats 4000000 in
set_option maxRecDepth 100000 in
theorem c_X4_isValid (l : Launch) (hlt : l.stackTraces = false) (G : hv_G) (h : hv) (sz : Nat) {ad : Nat → Nat → Nat} {n d dl : Nat} {dy : Int32} {rf : Int64} {ar : Nat → Nat → Int32} {fm : Nat → Int32} {po : Nat → List (Int32 × Int32 × Int32)} (hD : isD G h ad n d dl dy rf ar fm po) (p0 : Int32) (hn : n ≤ 20) : hv_Xi l yX4_isValid wsX4_isValid 8 200 2 12 G h sz [.ref (ad 0 0), .int p0] (fun r u => fAk p0 n = 0 ∧ u = h ∧ r = hf dy (ar 7 p0.toNatClampNeg)) (fun E u => u = h ∧ ((fAk p0 n = 1 ∧ E = "java/lang/IndexOutOfBoundsException"))) := by
  have wX4 : ∀ w ∈ wsX40, w ∈ wsX4_isValid := by decide +kernel
  refine hv_enterX (y := yX4_isValid) (avs := [.ref (ad 0 0), .int p0]) (maxL := 2) (Qf := fun sz => va_Qi (fun r u => fAk p0 n = 0 ∧ u = h ∧ r = hf dy (ar 7 p0.toNatClampNeg)) (hv_Bq G h sz) (hv_A h sz)) (XC := fun sz => hv_X G h sz (fun E u => u = h ∧ ((fAk p0 n = 1 ∧ E = "java/lang/IndexOutOfBoundsException")))) (by decide) rfl rfl (Nat.le_of_ble_eq_true rfl) ?_
  intro p e s m below meth c hr ht C I ls hl
  have hl : lv_has ls 2 [(0, .ref (ad 0 0)), (1, .int p0)] := hl
  refine lv_aload_n C.1 C.2.1 dX4_isValid_0 rfl (lv_at hl 0 rfl) ?_
  refine lv_iload_n C.1 C.2.1 dX4_isValid_1 rfl (lv_at hl 1 rfl) ?_
  refine hv_xkq I (vx_runV (As := [.int p0]) (rest := []) C.fix (c_X4_holderAt l hlt G h _ hD p0 hn) (cwV 1 C.2.2.2.2.1 gX4_isValid_X4_holderAt rfl rfl rfl (by decide +kernel) ⟨Nat.le_of_ble_eq_true rfl, Nat.le_of_ble_eq_true rfl⟩) (hv_preV C I (isD_0 hD) (r := (RX4, TX4, 6)) rfl) rfl rfl hl.1 rfl (lv_room (Nat.le_of_ble_eq_true rfl)) dX4_isValid_2 ⟨Nat.le_of_ble_eq_true rfl, Nat.le_of_ble_eq_true rfl⟩) (fun E ce q9 u H locs hpx I hq9 hv9 hcl9 => hv_xout C ht I hq9 hv9 hcl9 ((by obtain ⟨g1, g2, g3⟩ := hpx; exact ⟨g2, ⟨(by unfold fAk; simp [g3]), g1⟩⟩)) (Nat.le_of_ble_eq_true rfl) (Nat.le_of_ble_eq_true rfl)) (fun ru_1 u_1 H locs pu_1 I => ?_)
  obtain ⟨e1, j, hj, ej, e2⟩ := pu_1; have e1 := e1.symm; subst e1; have e2 := e2.symm; subst e2; subst ej
  have ij : iw (nI j) 0 (nI n - 1) = 1 := iwh_nI hj (by omega)
  have kj : (nI j).toNatClampNeg = j := nI_clamp (by omega)
  refine lv_aload_n C.1 C.2.1 dX4_isValid_5 rfl (lv_at hl 0 rfl) ?_
  refine hv_get (ci := 5) (Cn := RX4) (T := TX4) (N := 6) (ref := "DividendDesk") (v := .int dy) C I (isD_0 hD) wX4 rfl 4 (by decide) (by decide +kernel) (fun _ h9 => h9) rfl dX4_isValid_6 ?_
  refine hv_ki I (va_runVN (As := [.int dy]) (rest := []) C.fix (c_X1_hasFormOn l G h _ (isD_4 hD hj) dy) ⟨va_cnB 1 C.2.2.2.2.1 gX4_isValid_X1_hasFormOn_n113 rfl rfl rfl (C.nw (w := .methodLinkNest RX4 113 yX1_hasFormOn "DividendDesk") (by decide +kernel)) (C.ts (by decide +kernel)) (by decide +kernel) ⟨Nat.le_of_ble_eq_true rfl, Nat.le_of_ble_eq_true rfl⟩, C.ts (by decide +kernel), C.ts (by decide +kernel)⟩ (hv_preV C I (isD_4 hD hj) (r := (RX1, TX1, 6)) rfl) rfl rfl hl.1 rfl (lv_room (Nat.le_of_ble_eq_true rfl)) dX4_isValid_9 ⟨Nat.le_of_ble_eq_true rfl, Nat.le_of_ble_eq_true rfl⟩) (fun ru_2 u_2 H locs pu_2 I => ?_)
  obtain ⟨e1, e2⟩ := pu_2; have e1 := e1.symm; subst e1; have e2 := e2.symm; subst e2
  exact vx_ret (hv_zret (v := (hf dy ((ar 7) j))) C hr I (hf_bool _ _) (⟨(by unfold fAk; first | (simp [ij, kj]; done) | ((repeat' split) <;> first | rfl | contradiction)), ⟨rfl, by rw [kj]⟩⟩) dX4_isValid_12 (Nat.le_of_ble_eq_true rfl) (Nat.le_of_ble_eq_true rfl))

set_option maxHeartbeats 4000000 in
set_option maxRecDepth 100000 in
theorem c_X4_isLarge (l : Launch) (hlt : l.stackTraces = false) (G : hv_G) (h : hv) (sz : Nat) {ad : Nat → Nat → Nat} {n d dl : Nat} {dy : Int32} {rf : Int64} {ar : Nat → Nat → Int32} {fm : Nat → Int32} {po : Nat → List (Int32 × Int32 × Int32)} (hD : isD G h ad n d dl dy rf ar fm po) (p0 : Int32) (hn : n ≤ 20) : hv_Xi l yX4_isLarge wsX4_isLarge 8 200 2 12 G h sz [.ref (ad 0 0), .int p0] (fun r u => fAk p0 n = 0 ∧ u = h ∧ r = hlg (ar 4 p0.toNatClampNeg) (ar 6 p0.toNatClampNeg) (ar 8 p0.toNatClampNeg) dy) (fun E u => u = h ∧ ((fAk p0 n = 1 ∧ E = "java/lang/IndexOutOfBoundsException"))) := by
  have wX4 : ∀ w ∈ wsX40, w ∈ wsX4_isLarge := by decide +kernel
  refine hv_enterX (y := yX4_isLarge) (avs := [.ref (ad 0 0), .int p0]) (maxL := 2) (Qf := fun sz => va_Qi (fun r u => fAk p0 n = 0 ∧ u = h ∧ r = hlg (ar 4 p0.toNatClampNeg) (ar 6 p0.toNatClampNeg) (ar 8 p0.toNatClampNeg) dy) (hv_Bq G h sz) (hv_A h sz)) (XC := fun sz => hv_X G h sz (fun E u => u = h ∧ ((fAk p0 n = 1 ∧ E = "java/lang/IndexOutOfBoundsException")))) (by decide) rfl rfl (Nat.le_of_ble_eq_true rfl) ?_
  intro p e s m below meth c hr ht C I ls hl
  have hl : lv_has ls 2 [(0, .ref (ad 0 0)), (1, .int p0)] := hl
  refine lv_aload_n C.1 C.2.1 dX4_isLarge_0 rfl (lv_at hl 0 rfl) ?_
  refine lv_iload_n C.1 C.2.1 dX4_isLarge_1 rfl (lv_at hl 1 rfl) ?_
  refine hv_xkq I (vx_runV (As := [.int p0]) (rest := []) C.fix (c_X4_holderAt l hlt G h _ hD p0 hn) (cwV 1 C.2.2.2.2.1 gX4_isLarge_X4_holderAt rfl rfl rfl (by decide +kernel) ⟨Nat.le_of_ble_eq_true rfl, Nat.le_of_ble_eq_true rfl⟩) (hv_preV C I (isD_0 hD) (r := (RX4, TX4, 6)) rfl) rfl rfl hl.1 rfl (lv_room (Nat.le_of_ble_eq_true rfl)) dX4_isLarge_2 ⟨Nat.le_of_ble_eq_true rfl, Nat.le_of_ble_eq_true rfl⟩) (fun E ce q9 u H locs hpx I hq9 hv9 hcl9 => hv_xout C ht I hq9 hv9 hcl9 ((by obtain ⟨g1, g2, g3⟩ := hpx; exact ⟨g2, ⟨(by unfold fAk; simp [g3]), g1⟩⟩)) (Nat.le_of_ble_eq_true rfl) (Nat.le_of_ble_eq_true rfl)) (fun ru_1 u_1 H locs pu_1 I => ?_)
  obtain ⟨e1, j, hj, ej, e2⟩ := pu_1; have e1 := e1.symm; subst e1; have e2 := e2.symm; subst e2; subst ej
  have ij : iw (nI j) 0 (nI n - 1) = 1 := iwh_nI hj (by omega)
  have kj : (nI j).toNatClampNeg = j := nI_clamp (by omega)
  refine lv_aload_n C.1 C.2.1 dX4_isLarge_5 rfl (lv_at hl 0 rfl) ?_
  refine hv_get (ci := 5) (Cn := RX4) (T := TX4) (N := 6) (ref := "DividendDesk") (v := .int dy) C I (isD_0 hD) wX4 rfl 4 (by decide) (by decide +kernel) (fun _ h9 => h9) rfl dX4_isLarge_6 ?_
  refine hv_ki I (va_runVN (As := [.int dy]) (rest := []) C.fix (c_X1_hasLargeHoldingOn l G h _ (isD_4 hD hj) dy) ⟨va_cnB 1 C.2.2.2.2.1 gX4_isLarge_X1_hasLargeHoldingOn_n116 rfl rfl rfl (C.nw (w := .methodLinkNest RX4 116 yX1_hasLargeHoldingOn "DividendDesk") (by decide +kernel)) (C.ts (by decide +kernel)) (by decide +kernel) ⟨Nat.le_of_ble_eq_true rfl, Nat.le_of_ble_eq_true rfl⟩, C.ts (by decide +kernel), C.ts (by decide +kernel)⟩ (hv_preV C I (isD_4 hD hj) (r := (RX1, TX1, 6)) rfl) rfl rfl hl.1 rfl (lv_room (Nat.le_of_ble_eq_true rfl)) dX4_isLarge_9 ⟨Nat.le_of_ble_eq_true rfl, Nat.le_of_ble_eq_true rfl⟩) (fun ru_2 u_2 H locs pu_2 I => ?_)
  obtain ⟨e1, e2⟩ := pu_2; have e1 := e1.symm; subst e1; have e2 := e2.symm; subst e2
  exact vx_ret (hv_zret (v := (hlg ((ar 4) j) ((ar 6) j) ((ar 8) j) dy)) C hr I (hlg_bool _ _ _ _) (⟨(by unfold fAk; first | (simp [ij, kj]; done) | ((repeat' split) <;> first | rfl | contradiction)), ⟨rfl, by rw [kj]⟩⟩) dX4_isLarge_12 (Nat.le_of_ble_eq_true rfl) (Nat.le_of_ble_eq_true rfl))

set_option maxHeartbeats 4000000 in
set_option maxRecDepth 100000 in
theorem c_X4_treatyRate (l : Launch) (hlt : l.stackTraces = false) (G : hv_G) (h : hv) (sz : Nat) {ad : Nat → Nat → Nat} {n d dl : Nat} {dy : Int32} {rf : Int64} {ar : Nat → Nat → Int32} {fm : Nat → Int32} {po : Nat → List (Int32 × Int32 × Int32)} (hD : isD G h ad n d dl dy rf ar fm po) (p0 : Int32) (hn : n ≤ 20) : hv_Xi l yX4_treatyRate wsX4_treatyRate 8 200 2 12 G h sz [.ref (ad 0 0), .int p0] (fun r u => fRt p0 n (ar 4) = 0 ∧ u = h ∧ r = ownF (rD (ar 1) (ar 5 p0.toNatClampNeg)) (rD (ar 2) (ar 5 p0.toNatClampNeg)) (hlg (ar 4 p0.toNatClampNeg) (ar 6 p0.toNatClampNeg) (ar 8 p0.toNatClampNeg) dy)) (fun E u => u = h ∧ ((fRt p0 n (ar 4) = 1 ∧ E = "java/lang/IndexOutOfBoundsException") ∨ (fRt p0 n (ar 4) = 2 ∧ E = "java/lang/IllegalArgumentException"))) := by
  have wX1 : ∀ w ∈ wsX10, w ∈ wsX4_treatyRate := by decide +kernel
  refine hv_enterX (y := yX4_treatyRate) (avs := [.ref (ad 0 0), .int p0]) (maxL := 3) (Qf := fun sz => va_Qi (fun r u => fRt p0 n (ar 4) = 0 ∧ u = h ∧ r = ownF (rD (ar 1) (ar 5 p0.toNatClampNeg)) (rD (ar 2) (ar 5 p0.toNatClampNeg)) (hlg (ar 4 p0.toNatClampNeg) (ar 6 p0.toNatClampNeg) (ar 8 p0.toNatClampNeg) dy)) (hv_Bq G h sz) (hv_A h sz)) (XC := fun sz => hv_X G h sz (fun E u => u = h ∧ ((fRt p0 n (ar 4) = 1 ∧ E = "java/lang/IndexOutOfBoundsException") ∨ (fRt p0 n (ar 4) = 2 ∧ E = "java/lang/IllegalArgumentException")))) (by decide) rfl rfl (Nat.le_of_ble_eq_true rfl) ?_
  intro p e s m below meth c hr ht C I ls hl
  have hl : lv_has ls 3 [(0, .ref (ad 0 0)), (1, .int p0)] := hl
  refine lv_aload_n C.1 C.2.1 dX4_treatyRate_0 rfl (lv_at hl 0 rfl) ?_
  refine lv_iload_n C.1 C.2.1 dX4_treatyRate_1 rfl (lv_at hl 1 rfl) ?_
  refine hv_xkq I (vx_runV (As := [.int p0]) (rest := []) C.fix (c_X4_holderAt l hlt G h _ hD p0 hn) (cwV 1 C.2.2.2.2.1 gX4_treatyRate_X4_holderAt rfl rfl rfl (by decide +kernel) ⟨Nat.le_of_ble_eq_true rfl, Nat.le_of_ble_eq_true rfl⟩) (hv_preV C I (isD_0 hD) (r := (RX4, TX4, 6)) rfl) rfl rfl hl.1 rfl (lv_room (Nat.le_of_ble_eq_true rfl)) dX4_treatyRate_2 ⟨Nat.le_of_ble_eq_true rfl, Nat.le_of_ble_eq_true rfl⟩) (fun E ce q9 u H locs hpx I hq9 hv9 hcl9 => hv_xout C ht I hq9 hv9 hcl9 ((by obtain ⟨g1, g2, g3⟩ := hpx; exact ⟨g2, Or.inl (⟨(by unfold fRt; simp [g3]), g1⟩)⟩)) (Nat.le_of_ble_eq_true rfl) (Nat.le_of_ble_eq_true rfl)) (fun ru_1 u_1 H locs pu_1 I => ?_)
  obtain ⟨e1, j, hj, ej, e2⟩ := pu_1; have e1 := e1.symm; subst e1; have e2 := e2.symm; subst e2; subst ej
  have ij : iw (nI j) 0 (nI n - 1) = 1 := iwh_nI hj (by omega)
  have kj : (nI j).toNatClampNeg = j := nI_clamp (by omega)
  refine lv_astore_n (lv' := [(2, .ref (ad 4 j)), (0, .ref (ad 0 0)), (1, .int (nI j))]) C.1 C.2.1 dX4_treatyRate_5 rfl hl (by decide) rfl (fun ls hl => ?_)
  refine lv_aload_n C.1 C.2.1 dX4_treatyRate_6 rfl (lv_at hl 0 rfl) ?_
  refine hv_getN (ci := 2) (Cn := RX1) (T := TX1) (N := 6) (ref := "DividendDesk$Holder") (host := "DividendDesk") (v := .int ((ar 4) j)) C I (isD_4 hD hj) wX1 rfl 0 (by decide) (by decide +kernel) (fun _ h9 => h9) rfl dX4_treatyRate_7 ?_
  refine lv_iconst (v := 2) C.1 C.2.1 dX4_treatyRate_10 (by decide) ?_
  refine lv_icmp_ne (tgt := 24) C.1 C.2.1 dX4_treatyRate_11 (by decide) (fun c11 => ?_) (fun c11 => ?_)
  · refine lv_aload_n C.1 C.2.1 dX4_treatyRate_24 rfl (lv_at hl 1 rfl) ?_
    refine lv_aload_n C.1 C.2.1 dX4_treatyRate_25 rfl (lv_at hl 0 rfl) ?_
    refine hv_ki I (va_runV (As := [.ref (ad 4 j)]) (rest := []) C.fix (c_X4_ownRate l G h _ hD j hj) (cwV 1 C.2.2.2.2.1 gX4_treatyRate_X4_ownRate rfl rfl rfl (by decide +kernel) ⟨Nat.le_of_ble_eq_true rfl, Nat.le_of_ble_eq_true rfl⟩) (hv_preV C I (isD_0 hD) (r := (RX4, TX4, 6)) rfl) rfl rfl hl.1 rfl (lv_room (Nat.le_of_ble_eq_true rfl)) dX4_treatyRate_26 ⟨Nat.le_of_ble_eq_true rfl, Nat.le_of_ble_eq_true rfl⟩) (fun ru_2 u_2 H locs pu_2 I => ?_)
    obtain ⟨e1, e2⟩ := pu_2; have e1 := e1.symm; subst e1; have e2 := e2.symm; subst e2
    exact vx_ret (hv_iret (v := (ownF (rD (ar 1) ((ar 5) j)) (rD (ar 2) ((ar 5) j)) (hlg ((ar 4) j) ((ar 6) j) ((ar 8) j) dy))) C hr I (⟨(by unfold fRt; first | (simp [ij, kj, c11]; done) | ((repeat' split) <;> first | rfl | contradiction)), ⟨rfl, by rw [kj]⟩⟩) dX4_treatyRate_29 (Nat.le_of_ble_eq_true rfl) (Nat.le_of_ble_eq_true rfl))
  · exact hv_throw (cls := "java/lang/IllegalArgumentException") (text := "a partnership has no treaty") (names := ["java/lang/RuntimeException", "java/lang/Exception"]) (ik := 42) (is := 119) (ic := 46) C ht I hlt hl.1 (by decide +kernel) (by decide +kernel) (by decide +kernel) (by decide +kernel) (by decide +kernel) (by decide +kernel) (by decide +kernel) (by decide +kernel) dX4_treatyRate_14 dX4_treatyRate_17 dX4_treatyRate_18 dX4_treatyRate_20 dX4_treatyRate_23 (by decide) (by decide) (Nat.le_of_ble_eq_true rfl) (Nat.le_of_ble_eq_true rfl) (⟨rfl, Or.inr (⟨(by unfold fRt; first | (simp [ij, kj, c11]; done) | ((repeat' split) <;> first | rfl | contradiction)), rfl⟩)⟩) (Nat.le_of_ble_eq_true rfl) (Nat.le_of_ble_eq_true rfl)

set_option maxHeartbeats 4000000 in
set_option maxRecDepth 100000 in
theorem c_X4_giveForm (l : Launch) (hlt : l.stackTraces = false) (G : hv_G) (h : hv) (sz : Nat) {ad : Nat → Nat → Nat} {n d dl : Nat} {dy : Int32} {rf : Int64} {ar : Nat → Nat → Int32} {fm : Nat → Int32} {po : Nat → List (Int32 × Int32 × Int32)} (hD : isD G h ad n d dl dy rf ar fm po) (p0 : Int32) (hn : n ≤ 20) : hv_Xi l yX4_giveForm wsX4_giveForm 8 200 2 12 G h sz [.ref (ad 0 0), .int p0] (fun r u => fGf p0 n = 0 ∧ r = dy + 1080 ∧ isD G u ad n d dl dy rf (va_up ar 7 (upd (ar 7) p0.toNatClampNeg (dy + 1080))) fm po) (fun E u => u = h ∧ ((fGf p0 n = 1 ∧ E = "java/lang/IndexOutOfBoundsException"))) := by
  have wX1 : ∀ w ∈ wsX10, w ∈ wsX4_giveForm := by decide +kernel
  have wX4 : ∀ w ∈ wsX40, w ∈ wsX4_giveForm := by decide +kernel
  refine hv_enterX (y := yX4_giveForm) (avs := [.ref (ad 0 0), .int p0]) (maxL := 3) (Qf := fun sz => va_Qi (fun r u => fGf p0 n = 0 ∧ r = dy + 1080 ∧ isD G u ad n d dl dy rf (va_up ar 7 (upd (ar 7) p0.toNatClampNeg (dy + 1080))) fm po) (hv_Bq G h sz) (hv_A h sz)) (XC := fun sz => hv_X G h sz (fun E u => u = h ∧ ((fGf p0 n = 1 ∧ E = "java/lang/IndexOutOfBoundsException")))) (by decide) rfl rfl (Nat.le_of_ble_eq_true rfl) ?_
  intro p e s m below meth c hr ht C I ls hl
  have hl : lv_has ls 3 [(0, .ref (ad 0 0)), (1, .int p0)] := hl
  refine lv_aload_n C.1 C.2.1 dX4_giveForm_0 rfl (lv_at hl 0 rfl) ?_
  refine lv_iload_n C.1 C.2.1 dX4_giveForm_1 rfl (lv_at hl 1 rfl) ?_
  refine hv_xkq I (vx_runV (As := [.int p0]) (rest := []) C.fix (c_X4_holderAt l hlt G h _ hD p0 hn) (cwV 1 C.2.2.2.2.1 gX4_giveForm_X4_holderAt rfl rfl rfl (by decide +kernel) ⟨Nat.le_of_ble_eq_true rfl, Nat.le_of_ble_eq_true rfl⟩) (hv_preV C I (isD_0 hD) (r := (RX4, TX4, 6)) rfl) rfl rfl hl.1 rfl (lv_room (Nat.le_of_ble_eq_true rfl)) dX4_giveForm_2 ⟨Nat.le_of_ble_eq_true rfl, Nat.le_of_ble_eq_true rfl⟩) (fun E ce q9 u H locs hpx I hq9 hv9 hcl9 => hv_xout C ht I hq9 hv9 hcl9 ((by obtain ⟨g1, g2, g3⟩ := hpx; exact ⟨g2, ⟨(by unfold fGf; simp [g3]), g1⟩⟩)) (Nat.le_of_ble_eq_true rfl) (Nat.le_of_ble_eq_true rfl)) (fun ru_1 u_1 H locs pu_1 I => ?_)
  obtain ⟨e1, j, hj, ej, e2⟩ := pu_1; have e1 := e1.symm; subst e1; have e2 := e2.symm; subst e2; subst ej
  have ij : iw (nI j) 0 (nI n - 1) = 1 := iwh_nI hj (by omega)
  have kj : (nI j).toNatClampNeg = j := nI_clamp (by omega)
  refine lv_astore_n (lv' := [(2, .ref (ad 4 j)), (0, .ref (ad 0 0)), (1, .int (nI j))]) C.1 C.2.1 dX4_giveForm_5 rfl hl (by decide) rfl (fun ls hl => ?_)
  refine lv_aload_n C.1 C.2.1 dX4_giveForm_6 rfl (lv_at hl 0 rfl) ?_
  refine lv_aload_n C.1 C.2.1 dX4_giveForm_7 rfl (lv_at hl 1 rfl) ?_
  refine hv_get (ci := 5) (Cn := RX4) (T := TX4) (N := 6) (ref := "DividendDesk") (v := .int dy) C I (isD_0 hD) wX4 rfl 4 (by decide) (by decide +kernel) (fun _ h9 => h9) rfl dX4_giveForm_8 ?_
  refine lv_sipush (v := 1080) C.1 C.2.1 dX4_giveForm_11 (by decide) ?_
  refine lv_iadd C.1 C.2.1 dX4_giveForm_14 ?_
  refine hv_putN (ci := 2) (Cn := RX1) (T := TX1) (N := 6) (ref := "DividendDesk$Holder") (host := "DividendDesk") (ty := .int) (v := .int (dy + 1080)) C I (isD_4 hD hj) wX1 tyX1 tyX1_ok nmX1 rfl 4 (by decide) (by decide +kernel) (fun _ h9 => h9) rfl (by decide +kernel) rfl rfl (Nat.le_of_ble_eq_true rfl) dX4_giveForm_15 (fun H locs I => ?_)
  have I : hv_I G h s (hv_up h (ad 4 j) (.inr (2, [.int ((ar 4) j), .int ((ar 5) j), .ref (ad 5 j), .int ((ar 6) j), .int (dy + 1080), .int ((ar 8) j)]))) H locs := I
  obtain ⟨h_2, eh_2⟩ : ∃ z, z = hv_up h (ad 4 j) (.inr (2, [.int ((ar 4) j), .int ((ar 5) j), .ref (ad 5 j), .int ((ar 6) j), .int (dy + 1080), .int ((ar 8) j)])) := ⟨_, rfl⟩
  have I : hv_I G h s h_2 H locs := by rw [eh_2]; exact I
  have hD : isD G h_2 ad n d dl dy rf (va_up ar 7 (upd (ar 7) j (dy + 1080))) fm po := isD_fe hD hj eh_2
  refine lv_aload_n C.1 C.2.1 dX4_giveForm_18 rfl (lv_at hl 0 rfl) ?_
  refine hv_getN (ci := 2) (Cn := RX1) (T := TX1) (N := 6) (ref := "DividendDesk$Holder") (host := "DividendDesk") (v := .int ((upd (ar 7) j (dy + 1080)) j)) C I (isD_4 hD hj) wX1 rfl 4 (by decide) (by decide +kernel) (fun _ h9 => h9) rfl dX4_giveForm_19 ?_
  refine lv_topi (fun z_3 ez_3 => ?_)
  have ez_3 : z_3 = dy + 1080 := by rw [ez_3]; exact pk_us
  subst ez_3
  exact vx_ret (hv_iret (v := (dy + 1080)) C hr I (⟨(by unfold fGf; first | (simp [ij, kj]; done) | ((repeat' split) <;> first | rfl | contradiction)), ⟨rfl, by rw [kj]; exact hD⟩⟩) dX4_giveForm_22 (Nat.le_of_ble_eq_true rfl) (Nat.le_of_ble_eq_true rfl))

set_option maxHeartbeats 4000000 in
set_option maxRecDepth 100000 in
theorem c_X4_setShares (l : Launch) (hlt : l.stackTraces = false) (G : hv_G) (h : hv) (sz : Nat) {ad : Nat → Nat → Nat} {n d dl : Nat} {dy : Int32} {rf : Int64} {ar : Nat → Nat → Int32} {fm : Nat → Int32} {po : Nat → List (Int32 × Int32 × Int32)} (hD : isD G h ad n d dl dy rf ar fm po) (p0 p1 : Int32) (hn : n ≤ 20) : hv_Xi l yX4_setShares wsX4_setShares 8 200 2 12 G h sz [.ref (ad 0 0), .int p0, .int p1] (fun r u => fSs p0 p1 n (ar 6) = 0 ∧ r = ar 6 p0.toNatClampNeg ∧ isD G u ad n d dl dy rf (va_up ar 6 (upd (ar 6) p0.toNatClampNeg p1)) fm po) (fun E u => u = h ∧ ((fSs p0 p1 n (ar 6) = 1 ∧ E = "java/lang/IndexOutOfBoundsException") ∨ (fSs p0 p1 n (ar 6) = 2 ∧ E = "java/lang/IllegalArgumentException") ∨ (fSs p0 p1 n (ar 6) = 3 ∧ E = "java/lang/IllegalStateException"))) := by
  have wX1 : ∀ w ∈ wsX10, w ∈ wsX4_setShares := by decide +kernel
  refine hv_enterX (y := yX4_setShares) (avs := [.ref (ad 0 0), .int p0, .int p1]) (maxL := 5) (Qf := fun sz => va_Qi (fun r u => fSs p0 p1 n (ar 6) = 0 ∧ r = ar 6 p0.toNatClampNeg ∧ isD G u ad n d dl dy rf (va_up ar 6 (upd (ar 6) p0.toNatClampNeg p1)) fm po) (hv_Bq G h sz) (hv_A h sz)) (XC := fun sz => hv_X G h sz (fun E u => u = h ∧ ((fSs p0 p1 n (ar 6) = 1 ∧ E = "java/lang/IndexOutOfBoundsException") ∨ (fSs p0 p1 n (ar 6) = 2 ∧ E = "java/lang/IllegalArgumentException") ∨ (fSs p0 p1 n (ar 6) = 3 ∧ E = "java/lang/IllegalStateException")))) (by decide) rfl rfl (Nat.le_of_ble_eq_true rfl) ?_
  intro p e s m below meth c hr ht C I ls hl
  have hl : lv_has ls 5 [(0, .ref (ad 0 0)), (1, .int p0), (2, .int p1)] := hl
  refine lv_aload_n C.1 C.2.1 dX4_setShares_0 rfl (lv_at hl 0 rfl) ?_
  refine lv_iload_n C.1 C.2.1 dX4_setShares_1 rfl (lv_at hl 1 rfl) ?_
  refine hv_xkq I (vx_runV (As := [.int p0]) (rest := []) C.fix (c_X4_holderAt l hlt G h _ hD p0 hn) (cwV 1 C.2.2.2.2.1 gX4_setShares_X4_holderAt rfl rfl rfl (by decide +kernel) ⟨Nat.le_of_ble_eq_true rfl, Nat.le_of_ble_eq_true rfl⟩) (hv_preV C I (isD_0 hD) (r := (RX4, TX4, 6)) rfl) rfl rfl hl.1 rfl (lv_room (Nat.le_of_ble_eq_true rfl)) dX4_setShares_2 ⟨Nat.le_of_ble_eq_true rfl, Nat.le_of_ble_eq_true rfl⟩) (fun E ce q9 u H locs hpx I hq9 hv9 hcl9 => hv_xout C ht I hq9 hv9 hcl9 ((by obtain ⟨g1, g2, g3⟩ := hpx; exact ⟨g2, Or.inl (⟨(by unfold fSs; simp [g3]), g1⟩)⟩)) (Nat.le_of_ble_eq_true rfl) (Nat.le_of_ble_eq_true rfl)) (fun ru_1 u_1 H locs pu_1 I => ?_)
  obtain ⟨e1, j, hj, ej, e2⟩ := pu_1; have e1 := e1.symm; subst e1; have e2 := e2.symm; subst e2; subst ej
  have ij : iw (nI j) 0 (nI n - 1) = 1 := iwh_nI hj (by omega)
  have kj : (nI j).toNatClampNeg = j := nI_clamp (by omega)
  refine lv_astore_n (lv' := [(3, .ref (ad 4 j)), (0, .ref (ad 0 0)), (1, .int (nI j)), (2, .int p1)]) C.1 C.2.1 dX4_setShares_5 rfl hl (by decide) rfl (fun ls hl => ?_)
  refine lv_iload_n C.1 C.2.1 dX4_setShares_6 rfl (lv_at hl 3 rfl) ?_
  refine lv_iconst (v := 0) C.1 C.2.1 dX4_setShares_7 (by decide) ?_
  refine lv_ldc C.1 C.2.1 C.2.2.2.1 (C.ts (w := .constant RX4 87 (1000000)) (by decide +kernel)) dX4_setShares_8 ?_
  refine hv_ki I (va_runS (As := [.int p1, .int 0, .int (1000000)]) (rest := []) C.fix (c_X4_isWithin l G h _ p1 0 (1000000)) (va_cwS 3 C.2.2.2.2.1 gX4_setShares_X4_isWithin rfl rfl rfl (by decide +kernel) ⟨Nat.le_of_ble_eq_true rfl, Nat.le_of_ble_eq_true rfl⟩) (hv_preS C I) rfl rfl hl.1 rfl (lv_room (Nat.le_of_ble_eq_true rfl)) dX4_setShares_10 ⟨Nat.le_of_ble_eq_true rfl, Nat.le_of_ble_eq_true rfl⟩) (fun ru_2 u_2 H locs pu_2 I => ?_)
  obtain ⟨e1, e2⟩ := pu_2; have e1 := e1.symm; subst e1; have e2 := e2.symm; subst e2
  refine lv_if_ne (tgt := 26) C.1 C.2.1 dX4_setShares_13 (by decide) (fun c13 => ?_) (fun c13 => ?_)
  · refine lv_aload_n C.1 C.2.1 dX4_setShares_26 rfl (lv_at hl 0 rfl) ?_
    refine hv_getN (ci := 2) (Cn := RX1) (T := TX1) (N := 6) (ref := "DividendDesk$Holder") (host := "DividendDesk") (v := .int ((ar 6) j)) C I (isD_4 hD hj) wX1 rfl 3 (by decide) (by decide +kernel) (fun _ h9 => h9) rfl dX4_setShares_27 ?_
    refine lv_istore (lv' := [(4, .int ((ar 6) j)), (3, .ref (ad 4 j)), (0, .ref (ad 0 0)), (1, .int (nI j)), (2, .int p1)]) C.1 C.2.1 dX4_setShares_30 hl (by decide) rfl (fun ls hl => ?_)
    refine lv_aload_n C.1 C.2.1 dX4_setShares_32 rfl (lv_at hl 2 rfl) ?_
    refine hv_ki I (va_runV (As := []) (rest := []) C.fix (c_X4_sharesInAll l G h _ hD hn) (cwV 0 C.2.2.2.2.1 gX4_setShares_X4_sharesInAll rfl rfl rfl (by decide +kernel) ⟨Nat.le_of_ble_eq_true rfl, Nat.le_of_ble_eq_true rfl⟩) (hv_preV C I (isD_0 hD) (r := (RX4, TX4, 6)) rfl) rfl rfl hl.1 rfl (lv_room (Nat.le_of_ble_eq_true rfl)) dX4_setShares_33 ⟨Nat.le_of_ble_eq_true rfl, Nat.le_of_ble_eq_true rfl⟩) (fun ru_3 u_3 H locs pu_3 I => ?_)
    obtain ⟨e1, e2⟩ := pu_3; have e1 := e1.symm; subst e1; have e2 := e2.symm; subst e2
    refine lv_iload C.1 C.2.1 dX4_setShares_36 (lv_at hl 0 rfl) ?_
    refine lv_isub C.1 C.2.1 dX4_setShares_38 ?_
    refine lv_iload_n C.1 C.2.1 dX4_setShares_39 rfl (lv_at hl 4 rfl) ?_
    refine lv_iadd C.1 C.2.1 dX4_setShares_40 ?_
    refine lv_ldc C.1 C.2.1 C.2.2.2.1 (C.ts (w := .constant RX4 87 (1000000)) (by decide +kernel)) dX4_setShares_41 ?_
    refine lv_icmp_le (tgt := 56) C.1 C.2.1 dX4_setShares_43 (by decide) (fun c43 => ?_) (fun c43 => ?_)
    · refine lv_aload_n C.1 C.2.1 dX4_setShares_56 rfl (lv_at hl 1 rfl) ?_
      refine lv_iload_n C.1 C.2.1 dX4_setShares_57 rfl (lv_at hl 4 rfl) ?_
      refine hv_putN (ci := 2) (Cn := RX1) (T := TX1) (N := 6) (ref := "DividendDesk$Holder") (host := "DividendDesk") (ty := .int) (v := .int p1) C I (isD_4 hD hj) wX1 tyX1 tyX1_ok nmX1 rfl 3 (by decide) (by decide +kernel) (fun _ h9 => h9) rfl (by decide +kernel) rfl rfl (Nat.le_of_ble_eq_true rfl) dX4_setShares_58 (fun H locs I => ?_)
      have I : hv_I G h s (hv_up h (ad 4 j) (.inr (2, [.int ((ar 4) j), .int ((ar 5) j), .ref (ad 5 j), .int p1, .int ((ar 7) j), .int ((ar 8) j)]))) H locs := I
      obtain ⟨h_4, eh_4⟩ : ∃ z, z = hv_up h (ad 4 j) (.inr (2, [.int ((ar 4) j), .int ((ar 5) j), .ref (ad 5 j), .int p1, .int ((ar 7) j), .int ((ar 8) j)])) := ⟨_, rfl⟩
      have I : hv_I G h s h_4 H locs := by rw [eh_4]; exact I
      have hD : isD G h_4 ad n d dl dy rf (va_up ar 6 (upd (ar 6) j p1)) fm po := isD_sh hD hj eh_4
      refine lv_iload C.1 C.2.1 dX4_setShares_61 (lv_at hl 0 rfl) ?_
      exact vx_ret (hv_iret (v := ((ar 6) j)) C hr I (⟨(by unfold fSs; first | (simp [ij, kj, c13, c43]; done) | ((repeat' split) <;> first | rfl | contradiction)), ⟨by rw [kj], by rw [kj]; exact hD⟩⟩) dX4_setShares_63 (Nat.le_of_ble_eq_true rfl) (Nat.le_of_ble_eq_true rfl))
    · exact hv_throw (cls := "java/lang/IllegalStateException") (text := "more shares than there are") (names := ["java/lang/RuntimeException", "java/lang/Exception"]) (ik := 57) (is := 96) (ic := 61) C ht I hlt hl.1 (by decide +kernel) (by decide +kernel) (by decide +kernel) (by decide +kernel) (by decide +kernel) (by decide +kernel) (by decide +kernel) (by decide +kernel) dX4_setShares_46 dX4_setShares_49 dX4_setShares_50 dX4_setShares_52 dX4_setShares_55 (by decide) (by decide) (Nat.le_of_ble_eq_true rfl) (Nat.le_of_ble_eq_true rfl) (⟨rfl, Or.inr (Or.inr (⟨(by unfold fSs; first | (simp [ij, kj, c13, c43]; done) | ((repeat' split) <;> first | rfl | contradiction)), rfl⟩))⟩) (Nat.le_of_ble_eq_true rfl) (Nat.le_of_ble_eq_true rfl)
  · exact hv_throw (cls := "java/lang/IllegalArgumentException") (text := "no such number of shares") (names := ["java/lang/RuntimeException", "java/lang/Exception"]) (ik := 42) (is := 88) (ic := 46) C ht I hlt hl.1 (by decide +kernel) (by decide +kernel) (by decide +kernel) (by decide +kernel) (by decide +kernel) (by decide +kernel) (by decide +kernel) (by decide +kernel) dX4_setShares_16 dX4_setShares_19 dX4_setShares_20 dX4_setShares_22 dX4_setShares_25 (by decide) (by decide) (Nat.le_of_ble_eq_true rfl) (Nat.le_of_ble_eq_true rfl) (⟨rfl, Or.inr (Or.inl (⟨(by unfold fSs; first | (simp [ij, kj, c13]; done) | ((repeat' split) <;> first | rfl | contradiction)), rfl⟩))⟩) (Nat.le_of_ble_eq_true rfl) (Nat.le_of_ble_eq_true rfl)
