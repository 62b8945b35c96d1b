/-! ===== the desk: treaties, parts, days; payments ===== -/
def pt3 (x : Int32 × Int32 × Int32) (fo : Int32) : Int32 := pt_tax x.1 x.2.1 x.2.2 fo
def tsum (L : List (Int32 × Int32 × Int32)) (fo : Int32) : Nat → Int32
  | 0 => 0
  | k + 1 => tsum L fo k + pt3 (L.getD k (0, 0, 0)) fo
abbrev tall (L : List (Int32 × Int32 × Int32)) (fo : Int32) : Int32 := tsum L fo L.length
def lowF (x t : Int32) : Int32 := if x - t < 0 then 0 else x - t
theorem paysF_none {gr : Nat → Int32} {a : Nat → Nat} {i j : Nat} (h : gr (20 * i + j) = 0) : paysF gr a i j = none := if_neg (fun z => z.2 h)
theorem paysF_some {gr : Nat → Int32} {a : Nat → Nat} {i j : Nat} (hj : j < 20) (h : ¬ gr (20 * i + j) = 0) : paysF gr a i j = some (a (20 * i + j)) := if_pos ⟨hj, h⟩
def hrs (gr he : Nat → Int32) (D : Nat) : Nat → Int64
  | 0 => 0
  | k + 1 => if gr (20 * D + k) = 0 then hrs gr he D k else hrs gr he D k + (he (20 * D + k)).toInt64
def hrA (gr he : Nat → Int32) : Nat → Int64
  | 0 => 0
  | D + 1 => hrA gr he D + hrs gr he D 20
set_option maxHeartbeats 4000000 in
set_option maxRecDepth 100000 in
theorem c_X4_setTreaty (l : Launch) (hlt : l.stackTraces = false) (G : hv_G) (h : hv) (sz : Nat) {ad : Nat → Nat → Nat} {n d dl : Nat} {dy : Int32} {rf : Int64} {ar : Nat → Nat → Int32} {fm : Nat → Int32} {po : Nat → List (Int32 × Int32 × Int32)} (hD : isD G h ad n d dl dy rf ar fm po) (p0 p1 p2 : Int32) : hv_Xi l yX4_setTreaty wsX4_setTreaty 7 200 2 12 G h sz [.ref (ad 0 0), .int p0, .int p1, .int p2] (fun r u => fTr p0 p1 p2 = 0 ∧ r = ar 1 p0.toNatClampNeg ∧ isD G u ad n d dl dy rf (va_up (va_up ar 1 (upd (ar 1) p0.toNatClampNeg p1)) 2 (upd (ar 2) p0.toNatClampNeg p2)) fm po) (fun E u => u = h ∧ ((fTr p0 p1 p2 = 1 ∧ E = "java/lang/IllegalArgumentException"))) := by
  have wX4 : ∀ w ∈ wsX40, w ∈ wsX4_setTreaty := by decide +kernel
  refine hv_enterX (y := yX4_setTreaty) (avs := [.ref (ad 0 0), .int p0, .int p1, .int p2]) (maxL := 5) (Qf := fun sz => va_Qi (fun r u => fTr p0 p1 p2 = 0 ∧ r = ar 1 p0.toNatClampNeg ∧ isD G u ad n d dl dy rf (va_up (va_up ar 1 (upd (ar 1) p0.toNatClampNeg p1)) 2 (upd (ar 2) p0.toNatClampNeg p2)) fm po) (hv_Bq G h sz) (hv_A h sz)) (XC := fun sz => hv_X G h sz (fun E u => u = h ∧ ((fTr p0 p1 p2 = 1 ∧ E = "java/lang/IllegalArgumentException")))) (by decide) rfl rfl (Nat.le_of_ble_eq_true rfl) ?_
  intro p e s m below meth c hr ht C I ls hl
  have hl : lv_has ls 5 [(0, .ref (ad 0 0)), (1, .int p0), (2, .int p1), (3, .int p2)] := hl
  refine lv_iload_n C.1 C.2.1 dX4_setTreaty_0 rfl (lv_at hl 1 rfl) ?_
  refine hv_ki I (va_runS (As := [.int p0]) (rest := []) C.fix (c_X4_isLand l G h _ p0) (va_cwS 1 C.2.2.2.2.1 gX4_setTreaty_X4_isLand rfl rfl rfl (by decide +kernel) ⟨Nat.le_of_ble_eq_true rfl, Nat.le_of_ble_eq_true rfl⟩) (hv_preS C I) rfl rfl hl.1 rfl (lv_room (Nat.le_of_ble_eq_true rfl)) dX4_setTreaty_1 ⟨Nat.le_of_ble_eq_true rfl, Nat.le_of_ble_eq_true rfl⟩) (fun ru_1 u_1 H locs pu_1 I => ?_)
  obtain ⟨e1, e2⟩ := pu_1; have e1 := e1.symm; subst e1; have e2 := e2.symm; subst e2
  refine lv_if_eq (tgt := 27) C.1 C.2.1 dX4_setTreaty_4 (by decide) (fun c4 => ?_) (fun c4 => ?_)
  · exact hv_throw (cls := "java/lang/IllegalArgumentException") (text := "no such land or rate") (names := ["java/lang/RuntimeException", "java/lang/Exception"]) (ik := 42) (is := 44) (ic := 46) C ht I hlt hl.1 (by decide +kernel) (by decide +kernel) (by decide +kernel) (by decide +kernel) (by decide +kernel) (by decide +kernel) (by decide +kernel) (by decide +kernel) dX4_setTreaty_27 dX4_setTreaty_30 dX4_setTreaty_31 dX4_setTreaty_33 dX4_setTreaty_36 (by decide) (by decide) (Nat.le_of_ble_eq_true rfl) (Nat.le_of_ble_eq_true rfl) (⟨rfl, ⟨(by unfold fTr; first | (simp [c4]; done) | ((repeat' split) <;> first | rfl | contradiction)), rfl⟩⟩) (Nat.le_of_ble_eq_true rfl) (Nat.le_of_ble_eq_true rfl)
  · refine lv_iload_n C.1 C.2.1 dX4_setTreaty_7 rfl (lv_at hl 2 rfl) ?_
    refine lv_iconst (v := 0) C.1 C.2.1 dX4_setTreaty_8 (by decide) ?_
    refine lv_bipush (v := 30) C.1 C.2.1 dX4_setTreaty_9 (by decide) ?_
    refine hv_ki I (va_runS (As := [.int p1, .int 0, .int 30]) (rest := []) C.fix (c_X4_isWithin l G h _ p1 0 30) (va_cwS 3 C.2.2.2.2.1 gX4_setTreaty_X4_isWithin rfl rfl rfl (by decide +kernel) ⟨Nat.le_of_ble_eq_true rfl, Nat.le_of_ble_eq_true rfl⟩) (hv_preS C I) rfl rfl hl.1 rfl (lv_room (Nat.le_of_ble_eq_true rfl)) dX4_setTreaty_11 ⟨Nat.le_of_ble_eq_true rfl, Nat.le_of_ble_eq_true rfl⟩) (fun ru_2 u_2 H locs pu_2 I => ?_)
    obtain ⟨e1, e2⟩ := pu_2; have e1 := e1.symm; subst e1; have e2 := e2.symm; subst e2
    refine lv_if_eq (tgt := 27) C.1 C.2.1 dX4_setTreaty_14 (by decide) (fun c14 => ?_) (fun c14 => ?_)
    · exact hv_throw (cls := "java/lang/IllegalArgumentException") (text := "no such land or rate") (names := ["java/lang/RuntimeException", "java/lang/Exception"]) (ik := 42) (is := 44) (ic := 46) C ht I hlt hl.1 (by decide +kernel) (by decide +kernel) (by decide +kernel) (by decide +kernel) (by decide +kernel) (by decide +kernel) (by decide +kernel) (by decide +kernel) dX4_setTreaty_27 dX4_setTreaty_30 dX4_setTreaty_31 dX4_setTreaty_33 dX4_setTreaty_36 (by decide) (by decide) (Nat.le_of_ble_eq_true rfl) (Nat.le_of_ble_eq_true rfl) (⟨rfl, ⟨(by unfold fTr; first | (simp [c4, c14]; done) | ((repeat' split) <;> first | rfl | contradiction)), rfl⟩⟩) (Nat.le_of_ble_eq_true rfl) (Nat.le_of_ble_eq_true rfl)
    · refine lv_iload_n C.1 C.2.1 dX4_setTreaty_17 rfl (lv_at hl 3 rfl) ?_
      refine lv_iconst (v := 0) C.1 C.2.1 dX4_setTreaty_18 (by decide) ?_
      refine lv_bipush (v := 30) C.1 C.2.1 dX4_setTreaty_19 (by decide) ?_
      refine hv_ki I (va_runS (As := [.int p2, .int 0, .int 30]) (rest := []) C.fix (c_X4_isWithin l G h _ p2 0 30) (va_cwS 3 C.2.2.2.2.1 gX4_setTreaty_X4_isWithin rfl rfl rfl (by decide +kernel) ⟨Nat.le_of_ble_eq_true rfl, Nat.le_of_ble_eq_true rfl⟩) (hv_preS C I) rfl rfl hl.1 rfl (lv_room (Nat.le_of_ble_eq_true rfl)) dX4_setTreaty_21 ⟨Nat.le_of_ble_eq_true rfl, Nat.le_of_ble_eq_true rfl⟩) (fun ru_3 u_3 H locs pu_3 I => ?_)
      obtain ⟨e1, e2⟩ := pu_3; have e1 := e1.symm; subst e1; have e2 := e2.symm; subst e2
      refine lv_if_ne (tgt := 37) C.1 C.2.1 dX4_setTreaty_24 (by decide) (fun c24 => ?_) (fun c24 => ?_)
      · refine lv_aload_n C.1 C.2.1 dX4_setTreaty_37 rfl (lv_at hl 0 rfl) ?_
        refine hv_get (ci := 5) (Cn := RX4) (T := TX4) (N := 6) (ref := "DividendDesk") (v := .ref (ad 1 0)) C I (isD_0 hD) wX4 rfl 0 (by decide) (by decide +kernel) (fun _ h9 => h9) rfl dX4_setTreaty_38 ?_
        refine lv_iload_n C.1 C.2.1 dX4_setTreaty_41 rfl (lv_at hl 1 rfl) ?_
        refine hv_iald C I (isD_10 hD) (iw_vp (k := 5) (by decide) c4) dX4_setTreaty_42 ?_
        refine lv_istore (lv' := [(4, .int ((ar 1) p0.toNatClampNeg)), (0, .ref (ad 0 0)), (1, .int p0), (2, .int p1), (3, .int p2)]) C.1 C.2.1 dX4_setTreaty_43 hl (by decide) rfl (fun ls hl => ?_)
        refine lv_aload_n C.1 C.2.1 dX4_setTreaty_45 rfl (lv_at hl 1 rfl) ?_
        refine hv_get (ci := 5) (Cn := RX4) (T := TX4) (N := 6) (ref := "DividendDesk") (v := .ref (ad 1 0)) C I (isD_0 hD) wX4 rfl 0 (by decide) (by decide +kernel) (fun _ h9 => h9) rfl dX4_setTreaty_46 ?_
        refine lv_iload_n C.1 C.2.1 dX4_setTreaty_49 rfl (lv_at hl 2 rfl) ?_
        refine lv_iload_n C.1 C.2.1 dX4_setTreaty_50 rfl (lv_at hl 3 rfl) ?_
        refine hv_iast C I (isD_10 hD) (iw_vp (k := 5) (by decide) c4) dX4_setTreaty_51 (fun H locs I => ?_)
        obtain ⟨h_4, eh_4⟩ : ∃ z, z = hv_up h (ad 1 0) (.inl (G.2.1 0, 6, .inl (upd (ar 1) p0.toNatClampNeg p1))) := ⟨_, rfl⟩
        have I : hv_I G h s h_4 H locs := by rw [eh_4]; exact I
        have hD : isD G h_4 ad n d dl dy rf (va_up ar 1 (upd (ar 1) p0.toNatClampNeg p1)) fm po := isD_ge hD eh_4
        refine lv_aload_n C.1 C.2.1 dX4_setTreaty_52 rfl (lv_at hl 1 rfl) ?_
        refine hv_get (ci := 5) (Cn := RX4) (T := TX4) (N := 6) (ref := "DividendDesk") (v := .ref (ad 1 1)) C I (isD_0 hD) wX4 rfl 1 (by decide) (by decide +kernel) (fun _ h9 => h9) rfl dX4_setTreaty_53 ?_
        refine lv_iload_n C.1 C.2.1 dX4_setTreaty_56 rfl (lv_at hl 2 rfl) ?_
        refine lv_iload_n C.1 C.2.1 dX4_setTreaty_57 rfl (lv_at hl 4 rfl) ?_
        refine hv_iast C I (isD_11 hD) (iw_vp (k := 5) (by decide) c4) dX4_setTreaty_58 (fun H locs I => ?_)
        obtain ⟨h_5, eh_5⟩ : ∃ z, z = hv_up h_4 (ad 1 1) (.inl (G.2.1 0, 6, .inl (upd (ar 2) p0.toNatClampNeg p2))) := ⟨_, rfl⟩
        have I : hv_I G h s h_5 H locs := by rw [eh_5]; exact I
        have hD : isD G h_5 ad n d dl dy rf (va_up (va_up ar 1 (upd (ar 1) p0.toNatClampNeg p1)) 2 (upd (ar 2) p0.toNatClampNeg p2)) fm po := isD_la hD eh_5
        refine lv_iload C.1 C.2.1 dX4_setTreaty_59 (lv_at hl 0 rfl) ?_
        exact vx_ret (hv_iret (v := ((ar 1) p0.toNatClampNeg)) C hr I (⟨(by unfold fTr; first | (simp [c4, c14, c24]; done) | ((repeat' split) <;> first | rfl | contradiction)), ⟨rfl, hD⟩⟩) dX4_setTreaty_61 (Nat.le_of_ble_eq_true rfl) (Nat.le_of_ble_eq_true rfl))
      · exact hv_throw (cls := "java/lang/IllegalArgumentException") (text := "no such land or rate") (names := ["java/lang/RuntimeException", "java/lang/Exception"]) (ik := 42) (is := 44) (ic := 46) C ht I hlt hl.1 (by decide +kernel) (by decide +kernel) (by decide +kernel) (by decide +kernel) (by decide +kernel) (by decide +kernel) (by decide +kernel) (by decide +kernel) dX4_setTreaty_27 dX4_setTreaty_30 dX4_setTreaty_31 dX4_setTreaty_33 dX4_setTreaty_36 (by decide) (by decide) (Nat.le_of_ble_eq_true rfl) (Nat.le_of_ble_eq_true rfl) (⟨rfl, ⟨(by unfold fTr; first | (simp [c4, c14, c24]; done) | ((repeat' split) <;> first | rfl | contradiction)), rfl⟩⟩) (Nat.le_of_ble_eq_true rfl) (Nat.le_of_ble_eq_true rfl)

set_option maxHeartbeats 4000000 in
set_option maxRecDepth 100000 in
theorem c_X4_setParts (l : Launch) (hlt : l.stackTraces = false) (G : hv_G) (h : hv) (sz : Nat) {ad : Nat → Nat → Nat} {n d dl : Nat} {dy : Int32} {rf : Int64} {ar : Nat → Nat → Int32} {fm : Nat → Int32} {po : Nat → List (Int32 × Int32 × Int32)} (hD : isD G h ad n d dl dy rf ar fm po) (p0 p1 p2 : Int32) (hn : n ≤ 20) : hv_Xi l yX4_setParts wsX4_setParts 8 300 3 18 G h sz [.ref (ad 0 0), .int p0, .int p1, .int p2] (fun r u => fSp p0 p1 p2 n (ar 4) = 0 ∧ r = ar 9 (20 * p0.toNatClampNeg + p1.toNatClampNeg) ∧ isD G u ad n d dl dy rf (va_up ar 9 (upd (ar 9) (20 * p0.toNatClampNeg + p1.toNatClampNeg) p2)) fm po) (fun E u => u = h ∧ ((fSp p0 p1 p2 n (ar 4) = 1 ∧ E = "java/lang/IndexOutOfBoundsException") ∨ (fSp p0 p1 p2 n (ar 4) = 2 ∧ E = "java/lang/IllegalArgumentException"))) := by
  have wX1 : ∀ w ∈ wsX10, w ∈ wsX4_setParts := by decide +kernel
  refine hv_enterX (y := yX4_setParts) (avs := [.ref (ad 0 0), .int p0, .int p1, .int p2]) (maxL := 7) (Qf := fun sz => va_Qi (fun r u => fSp p0 p1 p2 n (ar 4) = 0 ∧ r = ar 9 (20 * p0.toNatClampNeg + p1.toNatClampNeg) ∧ isD G u ad n d dl dy rf (va_up ar 9 (upd (ar 9) (20 * p0.toNatClampNeg + p1.toNatClampNeg) p2)) fm po) (hv_Bq G h sz) (hv_A h sz)) (XC := fun sz => hv_X G h sz (fun E u => u = h ∧ ((fSp p0 p1 p2 n (ar 4) = 1 ∧ E = "java/lang/IndexOutOfBoundsException") ∨ (fSp p0 p1 p2 n (ar 4) = 2 ∧ E = "java/lang/IllegalArgumentException")))) (by decide) rfl rfl (Nat.le_of_ble_eq_true rfl) ?_
  intro p e s m below meth c hr ht C I ls hl
  have hl : lv_has ls 7 [(0, .ref (ad 0 0)), (1, .int p0), (2, .int p1), (3, .int p2)] := hl
  refine lv_aload_n C.1 C.2.1 dX4_setParts_0 rfl (lv_at hl 0 rfl) ?_
  refine lv_iload_n C.1 C.2.1 dX4_setParts_1 rfl (lv_at hl 1 rfl) ?_
  refine hv_xkq I (vx_runV (As := [.int p0]) (rest := []) C.fix (c_X4_holderAt l hlt G h _ hD p0 hn) (cwV 1 C.2.2.2.2.1 gX4_setParts_X4_holderAt rfl rfl rfl (by decide +kernel) ⟨Nat.le_of_ble_eq_true rfl, Nat.le_of_ble_eq_true rfl⟩) (hv_preV C I (isD_0 hD) (r := (RX4, TX4, 6)) rfl) rfl rfl hl.1 rfl (lv_room (Nat.le_of_ble_eq_true rfl)) dX4_setParts_2 ⟨Nat.le_of_ble_eq_true rfl, Nat.le_of_ble_eq_true rfl⟩) (fun E ce q9 u H locs hpx I hq9 hv9 hcl9 => hv_xout C ht I hq9 hv9 hcl9 ((by obtain ⟨g1, g2, g3⟩ := hpx; exact ⟨g2, Or.inl (⟨(by unfold fSp; simp [g3]), g1⟩)⟩)) (Nat.le_of_ble_eq_true rfl) (Nat.le_of_ble_eq_true rfl)) (fun ru_1 u_1 H locs pu_1 I => ?_)
  obtain ⟨e1, j, hj, ej, e2⟩ := pu_1; have e1 := e1.symm; subst e1; have e2 := e2.symm; subst e2; subst ej
  have ij : iw (nI j) 0 (nI n - 1) = 1 := iwh_nI hj (by omega)
  have kj : (nI j).toNatClampNeg = j := nI_clamp (by omega)
  refine lv_astore (lv' := [(4, .ref (ad 4 j)), (0, .ref (ad 0 0)), (1, .int (nI j)), (2, .int p1), (3, .int p2)]) C.1 C.2.1 dX4_setParts_5 hl (by decide) rfl (fun ls hl => ?_)
  refine lv_aload_n C.1 C.2.1 dX4_setParts_7 rfl (lv_at hl 1 rfl) ?_
  refine lv_iload_n C.1 C.2.1 dX4_setParts_8 rfl (lv_at hl 3 rfl) ?_
  refine hv_xkq I (vx_runV (As := [.int p1]) (rest := []) C.fix (c_X4_holderAt l hlt G h _ hD p1 hn) (cwV 1 C.2.2.2.2.1 gX4_setParts_X4_holderAt rfl rfl rfl (by decide +kernel) ⟨Nat.le_of_ble_eq_true rfl, Nat.le_of_ble_eq_true rfl⟩) (hv_preV C I (isD_0 hD) (r := (RX4, TX4, 6)) rfl) rfl rfl hl.1 rfl (lv_room (Nat.le_of_ble_eq_true rfl)) dX4_setParts_9 ⟨Nat.le_of_ble_eq_true rfl, Nat.le_of_ble_eq_true rfl⟩) (fun E ce q9 u H locs hpx I hq9 hv9 hcl9 => hv_xout C ht I hq9 hv9 hcl9 ((by obtain ⟨g1, g2, g3⟩ := hpx; exact ⟨g2, Or.inl (⟨(by unfold fSp; simp [ij, kj, g3]), g1⟩)⟩)) (Nat.le_of_ble_eq_true rfl) (Nat.le_of_ble_eq_true rfl)) (fun ru_2 u_2 H locs pu_2 I => ?_)
  obtain ⟨e1, j2, hj2, ej, e2⟩ := pu_2; have e1 := e1.symm; subst e1; have e2 := e2.symm; subst e2; subst ej
  have ij2 : iw (nI j2) 0 (nI n - 1) = 1 := iwh_nI hj2 (by omega)
  have kj2 : (nI j2).toNatClampNeg = j2 := nI_clamp (by omega)
  refine lv_astore (lv' := [(5, .ref (ad 4 j2)), (4, .ref (ad 4 j)), (0, .ref (ad 0 0)), (1, .int (nI j)), (2, .int (nI j2)), (3, .int p2)]) C.1 C.2.1 dX4_setParts_12 hl (by decide) rfl (fun ls hl => ?_)
  refine lv_aload C.1 C.2.1 dX4_setParts_14 (lv_at hl 1 rfl) ?_
  refine hv_getN (ci := 2) (Cn := RX1) (T := TX1) (N := 6) (ref := "DividendDesk$Holder") (host := "DividendDesk") (v := .int ((ar 4) j)) C I (isD_4 hD hj) wX1 rfl 0 (by decide) (by decide +kernel) (fun _ h9 => h9) rfl dX4_setParts_16 ?_
  refine lv_iconst (v := 2) C.1 C.2.1 dX4_setParts_19 (by decide) ?_
  refine lv_icmp_ne (tgt := 42) C.1 C.2.1 dX4_setParts_20 (by decide) (fun c20 => ?_) (fun c20 => ?_)
  · exact hv_throw (cls := "java/lang/IllegalArgumentException") (text := "no such membership or parts") (names := ["java/lang/RuntimeException", "java/lang/Exception"]) (ik := 42) (is := 78) (ic := 46) C ht I hlt hl.1 (by decide +kernel) (by decide +kernel) (by decide +kernel) (by decide +kernel) (by decide +kernel) (by decide +kernel) (by decide +kernel) (by decide +kernel) dX4_setParts_42 dX4_setParts_45 dX4_setParts_46 dX4_setParts_48 dX4_setParts_51 (by decide) (by decide) (Nat.le_of_ble_eq_true rfl) (Nat.le_of_ble_eq_true rfl) (⟨rfl, Or.inr (⟨(by unfold fSp; first | (simp [ij, kj, ij2, kj2, c20]; done) | ((repeat' split) <;> first | rfl | contradiction)), rfl⟩)⟩) (Nat.le_of_ble_eq_true rfl) (Nat.le_of_ble_eq_true rfl)
  · refine lv_aload C.1 C.2.1 dX4_setParts_23 (lv_at hl 0 rfl) ?_
    refine hv_getN (ci := 2) (Cn := RX1) (T := TX1) (N := 6) (ref := "DividendDesk$Holder") (host := "DividendDesk") (v := .int ((ar 4) j2)) C I (isD_4 hD hj2) wX1 rfl 0 (by decide) (by decide +kernel) (fun _ h9 => h9) rfl dX4_setParts_25 ?_
    refine lv_iconst (v := 2) C.1 C.2.1 dX4_setParts_28 (by decide) ?_
    refine lv_icmp_eq (tgt := 42) C.1 C.2.1 dX4_setParts_29 (by decide) (fun c29 => ?_) (fun c29 => ?_)
    · exact hv_throw (cls := "java/lang/IllegalArgumentException") (text := "no such membership or parts") (names := ["java/lang/RuntimeException", "java/lang/Exception"]) (ik := 42) (is := 78) (ic := 46) C ht I hlt hl.1 (by decide +kernel) (by decide +kernel) (by decide +kernel) (by decide +kernel) (by decide +kernel) (by decide +kernel) (by decide +kernel) (by decide +kernel) dX4_setParts_42 dX4_setParts_45 dX4_setParts_46 dX4_setParts_48 dX4_setParts_51 (by decide) (by decide) (Nat.le_of_ble_eq_true rfl) (Nat.le_of_ble_eq_true rfl) (⟨rfl, Or.inr (⟨(by unfold fSp; first | (simp [ij, kj, ij2, kj2, c20, c29]; done) | ((repeat' split) <;> first | rfl | contradiction)), rfl⟩)⟩) (Nat.le_of_ble_eq_true rfl) (Nat.le_of_ble_eq_true rfl)
    · refine lv_iload_n C.1 C.2.1 dX4_setParts_32 rfl (lv_at hl 5 rfl) ?_
      refine lv_iconst (v := 0) C.1 C.2.1 dX4_setParts_33 (by decide) ?_
      refine lv_bipush (v := 100) C.1 C.2.1 dX4_setParts_34 (by decide) ?_
      refine hv_ki I (va_runS (As := [.int p2, .int 0, .int 100]) (rest := []) C.fix (c_X4_isWithin l G h _ p2 0 100) (va_cwS 3 C.2.2.2.2.1 gX4_setParts_X4_isWithin rfl rfl rfl (by decide +kernel) ⟨Nat.le_of_ble_eq_true rfl, Nat.le_of_ble_eq_true rfl⟩) (hv_preS C I) rfl rfl hl.1 rfl (lv_room (Nat.le_of_ble_eq_true rfl)) dX4_setParts_36 ⟨Nat.le_of_ble_eq_true rfl, Nat.le_of_ble_eq_true rfl⟩) (fun ru_3 u_3 H locs pu_3 I => ?_)
      obtain ⟨e1, e2⟩ := pu_3; have e1 := e1.symm; subst e1; have e2 := e2.symm; subst e2
      refine lv_if_ne (tgt := 52) C.1 C.2.1 dX4_setParts_39 (by decide) (fun c39 => ?_) (fun c39 => ?_)
      · refine lv_aload C.1 C.2.1 dX4_setParts_52 (lv_at hl 1 rfl) ?_
        refine lv_iload_n C.1 C.2.1 dX4_setParts_54 rfl (lv_at hl 4 rfl) ?_
        refine hv_ki I (va_runVN (As := [.int (nI j2)]) (rest := []) C.fix (c_X1_partsOf l G h _ (isD_4 hD hj) (isD_5 hD hj) (nI j2)) ⟨va_cnB 1 C.2.2.2.2.1 gX4_setParts_X1_partsOf_n80 rfl rfl rfl (C.nw (w := .methodLinkNest RX4 80 yX1_partsOf "DividendDesk") (by decide +kernel)) (C.ts (by decide +kernel)) (by decide +kernel) ⟨Nat.le_of_ble_eq_true rfl, Nat.le_of_ble_eq_true rfl⟩, C.ts (by decide +kernel), C.ts (by decide +kernel)⟩ (hv_preV C I (isD_4 hD hj) (r := (RX1, TX1, 6)) rfl) rfl rfl hl.1 rfl (lv_room (Nat.le_of_ble_eq_true rfl)) dX4_setParts_55 ⟨Nat.le_of_ble_eq_true rfl, Nat.le_of_ble_eq_true rfl⟩) (fun ru_4 u_4 H locs pu_4 I => ?_)
        obtain ⟨e1, e2⟩ := pu_4; have e1 := e1.symm; subst e1; have e2 := e2.symm; subst e2
        refine lv_topi (fun z_5 ez_5 => ?_)
        have ez_5 : z_5 = ar 9 (20 * j + j2) := by rw [ez_5]; exact pts20_prow _ _ (by omega)
        subst ez_5
        refine lv_istore (lv' := [(6, .int (ar 9 (20 * j + j2))), (5, .ref (ad 4 j2)), (4, .ref (ad 4 j)), (0, .ref (ad 0 0)), (1, .int (nI j)), (2, .int (nI j2)), (3, .int p2)]) C.1 C.2.1 dX4_setParts_58 hl (by decide) rfl (fun ls hl => ?_)
        refine lv_aload C.1 C.2.1 dX4_setParts_60 (lv_at hl 2 rfl) ?_
        refine lv_iload_n C.1 C.2.1 dX4_setParts_62 rfl (lv_at hl 5 rfl) ?_
        refine lv_iload_n C.1 C.2.1 dX4_setParts_63 rfl (lv_at hl 6 rfl) ?_
        refine hv_kv I (va_runVN (As := [.int (nI j2), .int p2]) (rest := []) C.fix (c_X1_changeParts l G h _ (isD_4 hD hj) (isD_5 hD hj) (nI j2) p2 (show ¬ nI j2 < 0 from nI_nlt (Nat.zero_le _) (by omega)) (fun z => absurd ((nI_leI (a := 20) (b := j2) (by decide) (by omega)).mp z) (by omega))) ⟨va_cnB 2 C.2.2.2.2.1 gX4_setParts_X1_changeParts_n84 rfl rfl rfl (C.nw (w := .methodLinkNest RX4 84 yX1_changeParts "DividendDesk") (by decide +kernel)) (C.ts (by decide +kernel)) (by decide +kernel) ⟨Nat.le_of_ble_eq_true rfl, Nat.le_of_ble_eq_true rfl⟩, C.ts (by decide +kernel), C.ts (by decide +kernel)⟩ (hv_preV C I (isD_4 hD hj) (r := (RX1, TX1, 6)) rfl) rfl rfl hl.1 rfl (lv_room (Nat.le_of_ble_eq_true rfl)) dX4_setParts_64 ⟨Nat.le_of_ble_eq_true rfl, Nat.le_of_ble_eq_true rfl⟩) (fun u_6 H locs pu_6 I => ?_)
        rw [kj2] at pu_6
        have hD : isD G u_6 ad n d dl dy rf (va_up ar 9 (upd (ar 9) (20 * j + j2) p2)) fm po := isD_pa hD hj (by omega) pu_6
        refine lv_iload C.1 C.2.1 dX4_setParts_67 (lv_at hl 0 rfl) ?_
        exact vx_ret (hv_iret (v := (ar 9 (20 * j + j2))) C hr I (⟨(by unfold fSp; first | (simp [ij, kj, ij2, kj2, c20, c29, c39]; done) | ((repeat' split) <;> first | rfl | contradiction)), ⟨by rw [kj, kj2], by rw [kj, kj2]; exact hD⟩⟩) dX4_setParts_69 (Nat.le_of_ble_eq_true rfl) (Nat.le_of_ble_eq_true rfl))
      · exact hv_throw (cls := "java/lang/IllegalArgumentException") (text := "no such membership or parts") (names := ["java/lang/RuntimeException", "java/lang/Exception"]) (ik := 42) (is := 78) (ic := 46) C ht I hlt hl.1 (by decide +kernel) (by decide +kernel) (by decide +kernel) (by decide +kernel) (by decide +kernel) (by decide +kernel) (by decide +kernel) (by decide +kernel) dX4_setParts_42 dX4_setParts_45 dX4_setParts_46 dX4_setParts_48 dX4_setParts_51 (by decide) (by decide) (Nat.le_of_ble_eq_true rfl) (Nat.le_of_ble_eq_true rfl) (⟨rfl, Or.inr (⟨(by unfold fSp; first | (simp [ij, kj, ij2, kj2, c20, c29, c39]; done) | ((repeat' split) <;> first | rfl | contradiction)), rfl⟩)⟩) (Nat.le_of_ble_eq_true rfl) (Nat.le_of_ble_eq_true rfl)

set_option maxHeartbeats 4000000 in
set_option maxRecDepth 100000 in
theorem c_X4_pass (l : Launch) (hlt : l.stackTraces = false) (G : hv_G) (h : hv) (sz : Nat) {ad : Nat → Nat → Nat} {n d dl : Nat} {dy : Int32} {rf : Int64} {ar : Nat → Nat → Int32} {fm : Nat → Int32} {po : Nat → List (Int32 × Int32 × Int32)} (hD : isD G h ad n d dl dy rf ar fm po) (p0 : Int32) (hn : n ≤ 20) : hv_Xi l yX4_pass wsX4_pass 7 200 2 12 G h sz [.ref (ad 0 0), .int p0] (fun r u => fPs p0 dy = 0 ∧ r = dy + p0 ∧ isD G u ad n d dl (dy + p0) rf (va_up ar 8 (psS (ar 6) (ar 8) dy n)) fm po) (fun E u => u = h ∧ ((fPs p0 dy = 1 ∧ E = "java/lang/IllegalArgumentException") ∨ (fPs p0 dy = 2 ∧ E = "java/lang/IllegalStateException"))) := by
  have wX4 : ∀ w ∈ wsX40, w ∈ wsX4_pass := by decide +kernel
  refine hv_enterX (y := yX4_pass) (avs := [.ref (ad 0 0), .int p0]) (maxL := 3) (Qf := fun sz => va_Qi (fun r u => fPs p0 dy = 0 ∧ r = dy + p0 ∧ isD G u ad n d dl (dy + p0) rf (va_up ar 8 (psS (ar 6) (ar 8) dy n)) fm po) (hv_Bq G h sz) (hv_A h sz)) (XC := fun sz => hv_X G h sz (fun E u => u = h ∧ ((fPs p0 dy = 1 ∧ E = "java/lang/IllegalArgumentException") ∨ (fPs p0 dy = 2 ∧ E = "java/lang/IllegalStateException")))) (by decide) rfl rfl (Nat.le_of_ble_eq_true rfl) ?_
  intro p e s m below meth c hr ht C I ls hl
  have hl : lv_has ls 3 [(0, .ref (ad 0 0)), (1, .int p0)] := hl
  refine lv_iload_n C.1 C.2.1 dX4_pass_0 rfl (lv_at hl 1 rfl) ?_
  refine lv_iconst (v := 1) C.1 C.2.1 dX4_pass_1 (by decide) ?_
  refine lv_sipush (v := 2000) C.1 C.2.1 dX4_pass_2 (by decide) ?_
  refine hv_ki I (va_runS (As := [.int p0, .int 1, .int 2000]) (rest := []) C.fix (c_X4_isWithin l G h _ p0 1 2000) (va_cwS 3 C.2.2.2.2.1 gX4_pass_X4_isWithin rfl rfl rfl (by decide +kernel) ⟨Nat.le_of_ble_eq_true rfl, Nat.le_of_ble_eq_true rfl⟩) (hv_preS C I) rfl rfl hl.1 rfl (lv_room (Nat.le_of_ble_eq_true rfl)) dX4_pass_5 ⟨Nat.le_of_ble_eq_true rfl, Nat.le_of_ble_eq_true rfl⟩) (fun ru_1 u_1 H locs pu_1 I => ?_)
  obtain ⟨e1, e2⟩ := pu_1; have e1 := e1.symm; subst e1; have e2 := e2.symm; subst e2
  refine lv_if_ne (tgt := 21) C.1 C.2.1 dX4_pass_8 (by decide) (fun c8 => ?_) (fun c8 => ?_)
  · refine lv_aload_n C.1 C.2.1 dX4_pass_21 rfl (lv_at hl 0 rfl) ?_
    refine hv_get (ci := 5) (Cn := RX4) (T := TX4) (N := 6) (ref := "DividendDesk") (v := .int dy) C I (isD_0 hD) wX4 rfl 4 (by decide) (by decide +kernel) (fun _ h9 => h9) rfl dX4_pass_22 ?_
    refine lv_iload_n C.1 C.2.1 dX4_pass_25 rfl (lv_at hl 1 rfl) ?_
    refine lv_iadd C.1 C.2.1 dX4_pass_26 ?_
    refine lv_sipush (v := 20000) C.1 C.2.1 dX4_pass_27 (by decide) ?_
    refine lv_icmp_le (tgt := 43) C.1 C.2.1 dX4_pass_30 (by decide) (fun c30 => ?_) (fun c30 => ?_)
    · refine lv_iconst (v := 0) C.1 C.2.1 dX4_pass_43 (by decide) ?_
      refine lv_istore_n (lv' := [(2, .int 0), (0, .ref (ad 0 0)), (1, .int p0)]) C.1 C.2.1 dX4_pass_44 rfl hl (by decide) rfl (fun ls hl => ?_)
      have loop : ∀ (k9 i : Nat), i ≤ n → n + 1 ≤ i + k9 → ∀ (h1 : hv) (H : Heap) (locs : List Loc), isD G h1 ad n d dl dy rf (va_up ar 8 (psS (ar 6) (ar 8) dy i)) fm po → hv_I G h s h1 H locs → ∀ ls : Array Slot, lv_has ls 3 [(2, .int (nI i)), (0, .ref (ad 0 0)), (1, .int p0)] → W p l e (hv_rm 7 2 12 200) s m (([.ref (ad 0 0), .int p0] : List Value).toArray) below meth c H locs (0 + 0) (0 + 0) (vx_MQ below (va_Qi (fun r u => fPs p0 dy = 0 ∧ r = dy + p0 ∧ isD G u ad n d dl (dy + p0) rf (va_up ar 8 (psS (ar 6) (ar 8) dy n)) fm po) (hv_Bq G h s.heap.size) (hv_A h s.heap.size)) (hv_X G h s.heap.size (fun E u => u = h ∧ ((fPs p0 dy = 1 ∧ E = "java/lang/IllegalArgumentException") ∨ (fPs p0 dy = 2 ∧ E = "java/lang/IllegalStateException")))) (([.ref (ad 0 0), .int p0] : List Value).toArray) s 2 12 (hv_A h s.heap.size)) (F0 m 45 ls []) := by
        intro k9
        induction k9 with
        | zero => intro i hi hin; exact absurd hin (by omega)
        | succ k9 ih =>
          intro i hi hin h1 H locs hD I ls hl
          refine lv_iload_n C.1 C.2.1 dX4_pass_45 rfl (lv_at hl 0 rfl) ?_
          refine lv_aload_n C.1 C.2.1 dX4_pass_46 rfl (lv_at hl 1 rfl) ?_
          refine hv_get (ci := 5) (Cn := RX4) (T := TX4) (N := 6) (ref := "DividendDesk") (v := .ref (ad 2 0)) C I (isD_0 hD) wX4 rfl 2 (by decide) (by decide +kernel) (fun _ h9 => h9) rfl dX4_pass_47 ?_
          refine hv_ki I (va_runV (As := []) (rest := [.int (nI i)]) C.fix (c_L_size l G h1 _ (isD_20 hD)) (cwV 0 C.2.2.2.2.1 gX4_pass_Jx4a65c_size_8abf5 rfl rfl rfl (by decide +kernel) ⟨Nat.le_of_ble_eq_true rfl, Nat.le_of_ble_eq_true rfl⟩) (hv_preV C I (isD_20 hD) (r := (RJx4a65c, TJx4a65c, 3)) rfl) rfl rfl hl.1 rfl (lv_room (Nat.le_of_ble_eq_true rfl)) dX4_pass_50 ⟨Nat.le_of_ble_eq_true rfl, Nat.le_of_ble_eq_true rfl⟩) (fun ru_2 u_2 H locs pu_2 I => ?_)
          obtain ⟨e1, e2⟩ := pu_2; have e1 := e1.symm; subst e1; have e2 := e2.symm; subst e2
          refine lv_icmp_ge (tgt := 80) C.1 C.2.1 dX4_pass_53 (by decide) (fun c53 => ?_) (fun c53 => ?_)
          · have hi53 : i = n := Nat.le_antisymm hi (hv_leN (by omega) (by omega) c53)
            have hD : isD G h1 ad n d dl dy rf (va_up ar 8 (psS (ar 6) (ar 8) dy n)) fm po := isD_ar hD (by rw [hi53])
            refine lv_aload_n C.1 C.2.1 dX4_pass_80 rfl (lv_at hl 1 rfl) ?_
            refine lv_dup C.1 C.2.1 dX4_pass_81 rfl ?_
            refine hv_get (ci := 5) (Cn := RX4) (T := TX4) (N := 6) (ref := "DividendDesk") (v := .int dy) C I (isD_0 hD) wX4 rfl 4 (by decide) (by decide +kernel) (fun _ h9 => h9) rfl dX4_pass_82 ?_
            refine lv_iload_n C.1 C.2.1 dX4_pass_85 rfl (lv_at hl 2 rfl) ?_
            refine lv_iadd C.1 C.2.1 dX4_pass_86 ?_
            refine hv_put (ci := 5) (Cn := RX4) (T := TX4) (N := 6) (ref := "DividendDesk") (ty := .int) (v := .int (dy + p0)) C I (isD_0 hD) wX4 tyX4 tyX4_ok nmX4 rfl 4 (by decide) (by decide +kernel) (fun _ h9 => h9) rfl (by decide +kernel) rfl rfl (Nat.le_of_ble_eq_true rfl) dX4_pass_87 (fun H locs I => ?_)
            have I : hv_I G h s (hv_up h1 (ad 0 0) (.inr (5, [.ref (ad 1 0), .ref (ad 1 1), .ref (ad 2 0), .ref (ad 2 1), .int (dy + p0), .long rf]))) H locs := I
            obtain ⟨h_3, eh_3⟩ : ∃ z, z = hv_up h1 (ad 0 0) (.inr (5, [.ref (ad 1 0), .ref (ad 1 1), .ref (ad 2 0), .ref (ad 2 1), .int (dy + p0), .long rf])) := ⟨_, rfl⟩
            have I : hv_I G h s h_3 H locs := by rw [eh_3]; exact I
            have hD : isD G h_3 ad n d dl (dy + p0) rf (va_up ar 8 (psS (ar 6) (ar 8) dy n)) fm po := isD_dk hD eh_3
            refine lv_aload_n C.1 C.2.1 dX4_pass_90 rfl (lv_at hl 1 rfl) ?_
            refine hv_get (ci := 5) (Cn := RX4) (T := TX4) (N := 6) (ref := "DividendDesk") (v := .int (dy + p0)) C I (isD_0 hD) wX4 rfl 4 (by decide) (by decide +kernel) (fun _ h9 => h9) rfl dX4_pass_91 ?_
            exact vx_ret (hv_iret (v := (dy + p0)) C hr I (⟨(by unfold fPs; first | (simp [c8, c30, c53]; done) | ((repeat' split) <;> first | rfl | contradiction)), ⟨rfl, hD⟩⟩) dX4_pass_94 (Nat.le_of_ble_eq_true rfl) (Nat.le_of_ble_eq_true rfl))
          · have hi53 : i < n := hv_ltN (by omega) (by omega) c53
            refine lv_aload_n C.1 C.2.1 dX4_pass_56 rfl (lv_at hl 1 rfl) ?_
            refine hv_get (ci := 5) (Cn := RX4) (T := TX4) (N := 6) (ref := "DividendDesk") (v := .ref (ad 2 0)) C I (isD_0 hD) wX4 rfl 2 (by decide) (by decide +kernel) (fun _ h9 => h9) rfl dX4_pass_57 ?_
            refine lv_iload_n C.1 C.2.1 dX4_pass_60 rfl (lv_at hl 0 rfl) ?_
            refine hv_kq I (va_runV (As := [.int (nI i)]) (rest := []) C.fix (c_L_get l G h1 _ (isD_20 hD) (isD_30 hD (Nat.ne_zero_of_lt hi53)) hi53 (by omega)) (cwV 1 C.2.2.2.2.1 gX4_pass_Jx4a65c_get_915e3 rfl rfl rfl (by decide +kernel) ⟨Nat.le_of_ble_eq_true rfl, Nat.le_of_ble_eq_true rfl⟩) (hv_preV C I (isD_20 hD) (r := (RJx4a65c, TJx4a65c, 3)) rfl) rfl rfl hl.1 rfl (lv_room (Nat.le_of_ble_eq_true rfl)) dX4_pass_61 ⟨Nat.le_of_ble_eq_true rfl, Nat.le_of_ble_eq_true rfl⟩) (fun ru_4 u_4 H locs pu_4 I => ?_)
            obtain ⟨e1, e2⟩ := pu_4; have e1 := e1.symm; subst e1; have e2 := e2.symm; subst e2
            refine hv_cast C I (isD_4 hD hi53) (r := (RX1, TX1, 6)) rfl (by decide +kernel) dX4_pass_64 ?_
            refine lv_aload_n C.1 C.2.1 dX4_pass_67 rfl (lv_at hl 1 rfl) ?_
            refine hv_get (ci := 5) (Cn := RX4) (T := TX4) (N := 6) (ref := "DividendDesk") (v := .int dy) C I (isD_0 hD) wX4 rfl 4 (by decide) (by decide +kernel) (fun _ h9 => h9) rfl dX4_pass_68 ?_
            refine hv_kv I (va_runVN (As := [.int dy]) (rest := []) C.fix (c_X1_endDay l G h1 _ (isD_4 hD hi53) dy) ⟨va_cnB 1 C.2.2.2.2.1 gX4_pass_X1_endDay_n109 rfl rfl rfl (C.nw (w := .methodLinkNest RX4 109 yX1_endDay "DividendDesk") (by decide +kernel)) (C.ts (by decide +kernel)) (by decide +kernel) ⟨Nat.le_of_ble_eq_true rfl, Nat.le_of_ble_eq_true rfl⟩, C.ts (by decide +kernel), C.ts (by decide +kernel)⟩ (hv_preV C I (isD_4 hD hi53) (r := (RX1, TX1, 6)) rfl) rfl rfl hl.1 rfl (lv_room (Nat.le_of_ble_eq_true rfl)) dX4_pass_71 ⟨Nat.le_of_ble_eq_true rfl, Nat.le_of_ble_eq_true rfl⟩) (fun u_5 H locs pu_5 I => ?_)
            have hD : isD G u_5 ad n d dl dy rf (va_up (va_up ar 8 (psS (ar 6) (ar 8) dy i)) 8 (upd (psS (ar 6) (ar 8) dy i) i (sinceF (ar 6 i) ((psS (ar 6) (ar 8) dy i) i) dy))) fm po := isD_es hD hi53 pu_5
            refine lv_iinc (v := nI (i + 1)) (lv' := [(2, .int (nI (i + 1))), (0, .ref (ad 0 0)), (1, .int p0)]) C.1 C.2.1 dX4_pass_74 hl (k := 0) rfl (nI_1 i) (by decide) rfl (fun ls hl => ?_)
            refine lv_goto (tgt := 45) C.1 C.2.1 dX4_pass_77 (by decide) ?_
            exact ih (i + 1) (by omega) (by omega) _ _ _ (isD_ar hD (by rw [va_up_up, psS_at, psS_1])) I ls (lv_sub hl [0, 1, 2] rfl)
      exact loop (n + 1) 0 (Nat.zero_le _) (by omega) _ _ _ (isD_ar hD (by rw [psS_0, va_up_id])) I ls (lv_sub hl [0, 1, 2] rfl)
    · exact hv_throw (cls := "java/lang/IllegalStateException") (text := "beyond the last day") (names := ["java/lang/RuntimeException", "java/lang/Exception"]) (ik := 57) (is := 103) (ic := 61) C ht I hlt hl.1 (by decide +kernel) (by decide +kernel) (by decide +kernel) (by decide +kernel) (by decide +kernel) (by decide +kernel) (by decide +kernel) (by decide +kernel) dX4_pass_33 dX4_pass_36 dX4_pass_37 dX4_pass_39 dX4_pass_42 (by decide) (by decide) (Nat.le_of_ble_eq_true rfl) (Nat.le_of_ble_eq_true rfl) (⟨rfl, Or.inr (⟨(by unfold fPs; first | (simp [c8, c30]; done) | ((repeat' split) <;> first | rfl | contradiction)), rfl⟩)⟩) (Nat.le_of_ble_eq_true rfl) (Nat.le_of_ble_eq_true rfl)
  · exact hv_throw (cls := "java/lang/IllegalArgumentException") (text := "no such number of days") (names := ["java/lang/RuntimeException", "java/lang/Exception"]) (ik := 42) (is := 101) (ic := 46) C ht I hlt hl.1 (by decide +kernel) (by decide +kernel) (by decide +kernel) (by decide +kernel) (by decide +kernel) (by decide +kernel) (by decide +kernel) (by decide +kernel) dX4_pass_11 dX4_pass_14 dX4_pass_15 dX4_pass_17 dX4_pass_20 (by decide) (by decide) (Nat.le_of_ble_eq_true rfl) (Nat.le_of_ble_eq_true rfl) (⟨rfl, Or.inl (⟨(by unfold fPs; first | (simp [c8]; done) | ((repeat' split) <;> first | rfl | contradiction)), rfl⟩)⟩) (Nat.le_of_ble_eq_true rfl) (Nat.le_of_ble_eq_true rfl)

set_option maxHeartbeats 4000000 in
set_option maxRecDepth 100000 in
theorem c_X2_taxWith (l : Launch) (G : hv_G) (h : hv) (sz : Nat) {a pl : Nat} {am he : Int32} (fa : h a = some (.inr (3, [.int am, .ref pl, .int he]))) {t : Nat} {L : List (Int32 × Int32 × Int32)} (fl : h pl = some (lObj G t L.length)) {f : Nat → Nat} (ft : ¬ L.length = 0 → h t = some (lArr G f L.length)) (fp : ∀ k, k < L.length → h (f k) = some (poE (L.getD k (0, 0, 0)))) (hL : L.length ≤ 32) (p0 : Int32) : hv_Mi l yX2_taxWith wsX2_taxWith 3 100 0 0 G h sz [.ref a, .int p0] (fun r u => u = h ∧ r = tall L p0) := by
  have wX2 : ∀ w ∈ wsX20, w ∈ wsX2_taxWith := by decide +kernel
  refine hv_enter (y := yX2_taxWith) (avs := [.ref a, .int p0]) (maxL := 4) (Qf := fun sz => va_Qi (fun r u => u = h ∧ r = tall L p0) (hv_Bq G h sz) (hv_A h sz)) (by decide) rfl rfl (Nat.le_of_ble_eq_true rfl) ?_
  intro p e s m below meth c hr hnm C I ls hl
  have hl : lv_has ls 4 [(0, .ref a), (1, .int p0)] := hl
  refine lv_iconst (v := 0) C.1 C.2.1 dX2_taxWith_0 (by decide) ?_
  refine lv_istore_n (lv' := [(2, .int 0), (0, .ref a), (1, .int p0)]) C.1 C.2.1 dX2_taxWith_1 rfl hl (by decide) rfl (fun ls hl => ?_)
  refine lv_iconst (v := 0) C.1 C.2.1 dX2_taxWith_2 (by decide) ?_
  refine lv_istore_n (lv' := [(3, .int 0), (2, .int 0), (0, .ref a), (1, .int p0)]) C.1 C.2.1 dX2_taxWith_3 rfl hl (by decide) rfl (fun ls hl => ?_)
  have loop : ∀ (k9 i : Nat) , i ≤ L.length → L.length + 1 ≤ i + k9 → ∀ (H : Heap) (locs : List Loc), hv_I G h s h H locs → ∀ ls : Array Slot, lv_has ls 4 [(3, .int (nI i)), (2, .int (tsum L p0 i)), (0, .ref a), (1, .int p0)] → W p l e (hv_rm 3 0 0 100) s m (([.ref a, .int p0] : List Value).toArray) below meth c H locs 0 0 (MQ below (va_Qi (fun r u => u = h ∧ r = tall L p0) (hv_Bq G h s.heap.size) (hv_A h s.heap.size)) (([.ref a, .int p0] : List Value).toArray) s 0 0 (hv_A h s.heap.size)) (F0 m 4 ls []) := by
    intro k9
    induction k9 with
    | zero => intro i hi hin; exact absurd hin (by omega)
    | succ k9 ih =>
      intro i hi hin H locs I ls hl
      refine lv_iload_n C.1 C.2.1 dX2_taxWith_4 rfl (lv_at hl 0 rfl) ?_
      refine lv_aload_n C.1 C.2.1 dX2_taxWith_5 rfl (lv_at hl 2 rfl) ?_
      refine hv_get (ci := 3) (Cn := RX2) (T := TX2) (N := 3) (ref := "DividendDesk$Payment") (v := .ref pl) C I fa wX2 rfl 1 (by decide) (by decide +kernel) (fun _ h9 => h9) rfl dX2_taxWith_6 ?_
      refine hv_ki I (va_runV (As := []) (rest := [.int (nI i)]) C.fix (c_L_size l G h _ fl) (cwV 0 C.2.2.2.2.1 gX2_taxWith_Jx4a65c_size_8abf5 rfl rfl rfl (by decide +kernel) ⟨Nat.le_of_ble_eq_true rfl, Nat.le_of_ble_eq_true rfl⟩) (hv_preV C I fl (r := (RJx4a65c, TJx4a65c, 3)) rfl) rfl rfl hl.1 rfl (lv_room (Nat.le_of_ble_eq_true rfl)) dX2_taxWith_9 ⟨Nat.le_of_ble_eq_true rfl, Nat.le_of_ble_eq_true rfl⟩) (fun ru_1 u_1 H locs pu_1 I => ?_)
      obtain ⟨e1, e2⟩ := pu_1; have e1 := e1.symm; subst e1; have e2 := e2.symm; subst e2
      refine lv_icmp_ge (tgt := 39) C.1 C.2.1 dX2_taxWith_12 (by decide) (fun c12 => ?_) (fun c12 => ?_)
      · have hi12 : i = L.length := Nat.le_antisymm hi (hv_leN (by omega) (by omega) c12)
        refine lv_iload_n C.1 C.2.1 dX2_taxWith_39 rfl (lv_at hl 1 rfl) ?_
        exact hv_iret (v := (tsum L p0 i)) C hr I (⟨rfl, by rw [hi12]⟩) dX2_taxWith_40 (Nat.le_of_ble_eq_true rfl) (Nat.le_of_ble_eq_true rfl)
      · have hi12 : i < L.length := hv_ltN (by omega) (by omega) c12
        refine lv_iload_n C.1 C.2.1 dX2_taxWith_15 rfl (lv_at hl 1 rfl) ?_
        refine lv_aload_n C.1 C.2.1 dX2_taxWith_16 rfl (lv_at hl 2 rfl) ?_
        refine hv_get (ci := 3) (Cn := RX2) (T := TX2) (N := 3) (ref := "DividendDesk$Payment") (v := .ref pl) C I fa wX2 rfl 1 (by decide) (by decide +kernel) (fun _ h9 => h9) rfl dX2_taxWith_17 ?_
        refine lv_iload_n C.1 C.2.1 dX2_taxWith_20 rfl (lv_at hl 0 rfl) ?_
        refine hv_kq I (va_runV (As := [.int (nI i)]) (rest := [.int (tsum L p0 i)]) C.fix (c_L_get l G h _ fl (ft (Nat.ne_zero_of_lt hi12)) hi12 (by omega)) (cwV 1 C.2.2.2.2.1 gX2_taxWith_Jx4a65c_get_915e3 rfl rfl rfl (by decide +kernel) ⟨Nat.le_of_ble_eq_true rfl, Nat.le_of_ble_eq_true rfl⟩) (hv_preV C I fl (r := (RJx4a65c, TJx4a65c, 3)) rfl) rfl rfl hl.1 rfl (lv_room (Nat.le_of_ble_eq_true rfl)) dX2_taxWith_21 ⟨Nat.le_of_ble_eq_true rfl, Nat.le_of_ble_eq_true rfl⟩) (fun ru_2 u_2 H locs pu_2 I => ?_)
        obtain ⟨e1, e2⟩ := pu_2; have e1 := e1.symm; subst e1; have e2 := e2.symm; subst e2
        refine hv_cast C I (fp i hi12) (r := (RX3, TX3, 3)) rfl (by decide +kernel) dX2_taxWith_24 ?_
        refine lv_iload_n C.1 C.2.1 dX2_taxWith_27 rfl (lv_at hl 3 rfl) ?_
        refine hv_ki I (va_runVN (As := [.int p0]) (rest := [.int (tsum L p0 i)]) C.fix (c_X3_tax l G h _ (fp i hi12) p0) ⟨va_cnB 1 C.2.2.2.2.1 gX2_taxWith_X3_tax_n37 rfl rfl rfl (C.nw (w := .methodLinkNest RX2 37 yX3_tax "DividendDesk") (by decide +kernel)) (C.ts (by decide +kernel)) (by decide +kernel) ⟨Nat.le_of_ble_eq_true rfl, Nat.le_of_ble_eq_true rfl⟩, C.ts (by decide +kernel), C.ts (by decide +kernel)⟩ (hv_preV C I (fp i hi12) (r := (RX3, TX3, 3)) rfl) rfl rfl hl.1 rfl (lv_room (Nat.le_of_ble_eq_true rfl)) dX2_taxWith_28 ⟨Nat.le_of_ble_eq_true rfl, Nat.le_of_ble_eq_true rfl⟩) (fun ru_3 u_3 H locs pu_3 I => ?_)
        obtain ⟨e1, e2⟩ := pu_3; have e1 := e1.symm; subst e1; have e2 := e2.symm; subst e2
        refine lv_iadd C.1 C.2.1 dX2_taxWith_31 ?_
        refine lv_topi (fun z_4 ez_4 => ?_)
        have ez_4 : z_4 = tsum L p0 (i + 1) := by rw [ez_4]; rfl
        subst ez_4
        refine lv_istore_n (lv' := [(2, .int (tsum L p0 (i + 1))), (3, .int (nI i)), (0, .ref a), (1, .int p0)]) C.1 C.2.1 dX2_taxWith_32 rfl hl (by decide) rfl (fun ls hl => ?_)
        refine lv_iinc (v := nI (i + 1)) (lv' := [(3, .int (nI (i + 1))), (2, .int (tsum L p0 (i + 1))), (0, .ref a), (1, .int p0)]) C.1 C.2.1 dX2_taxWith_33 hl (k := 1) rfl (nI_1 i) (by decide) rfl (fun ls hl => ?_)
        refine lv_goto (tgt := 4) C.1 C.2.1 dX2_taxWith_36 (by decide) ?_
        exact ih (i + 1) (by omega) (by omega)  _ _ I ls (lv_sub hl [0, 1, 2, 3] rfl)
  exact loop (L.length + 1) 0 (Nat.zero_le _) (by omega) _ _ I ls (lv_sub hl [0, 1, 2, 3] rfl)

set_option maxHeartbeats 4000000 in
set_option maxRecDepth 100000 in
theorem c_X2_lowerTo (l : Launch) (G : hv_G) (h : hv) (sz : Nat) {a pl : Nat} {am he : Int32} (fa : h a = some (.inr (3, [.int am, .ref pl, .int he]))) (p0 : Int32) : hv_Mi l yX2_lowerTo wsX2_lowerTo 1 60 0 0 G h sz [.ref a, .int p0] (fun r u => r = lowF he p0 ∧ u = hv_up h a (.inr (3, [.int am, .ref pl, .int (he - lowF he p0)]))) := by
  have wX2 : ∀ w ∈ wsX20, w ∈ wsX2_lowerTo := by decide +kernel
  refine hv_enter (y := yX2_lowerTo) (avs := [.ref a, .int p0]) (maxL := 3) (Qf := fun sz => va_Qi (fun r u => r = lowF he p0 ∧ u = hv_up h a (.inr (3, [.int am, .ref pl, .int (he - lowF he p0)]))) (hv_Bq G h sz) (hv_A h sz)) (by decide) rfl rfl (Nat.le_of_ble_eq_true rfl) ?_
  intro p e s m below meth c hr hnm C I ls hl
  have hl : lv_has ls 3 [(0, .ref a), (1, .int p0)] := hl
  refine lv_aload_n C.1 C.2.1 dX2_lowerTo_0 rfl (lv_at hl 0 rfl) ?_
  refine hv_get (ci := 3) (Cn := RX2) (T := TX2) (N := 3) (ref := "DividendDesk$Payment") (v := .int he) C I fa wX2 rfl 2 (by decide) (by decide +kernel) (fun _ h9 => h9) rfl dX2_lowerTo_1 ?_
  refine lv_iload_n C.1 C.2.1 dX2_lowerTo_4 rfl (lv_at hl 1 rfl) ?_
  refine lv_isub C.1 C.2.1 dX2_lowerTo_5 ?_
  refine lv_iconst (v := 0) C.1 C.2.1 dX2_lowerTo_6 (by decide) ?_
  refine va_mmax C.1 C.2.1 (C.2.2.1.trans hl.1.symm) C.2.2.2.1 (C.ts (w := .methodLink RX2 41 Lib.Math.max.name) (by decide +kernel)) (C.ts (by decide +kernel)) (C.ts (by decide +kernel)) (C.ts (by decide +kernel)) (Nat.le_of_ble_eq_true rfl) (Nat.le_of_ble_eq_true rfl) (Nat.le_of_ble_eq_true rfl) (Nat.le_of_ble_eq_true rfl) dX2_lowerTo_7 ?_
  refine lv_topi (fun z_1 ez_1 => ?_)
  have ez_1 : z_1 = lowF he p0 := by rw [ez_1]; rfl
  subst ez_1
  refine lv_istore_n (lv' := [(2, .int (lowF he p0)), (0, .ref a), (1, .int p0)]) C.1 C.2.1 dX2_lowerTo_10 rfl hl (by decide) rfl (fun ls hl => ?_)
  refine lv_aload_n C.1 C.2.1 dX2_lowerTo_11 rfl (lv_at hl 1 rfl) ?_
  refine lv_dup C.1 C.2.1 dX2_lowerTo_12 rfl ?_
  refine hv_get (ci := 3) (Cn := RX2) (T := TX2) (N := 3) (ref := "DividendDesk$Payment") (v := .int he) C I fa wX2 rfl 2 (by decide) (by decide +kernel) (fun _ h9 => h9) rfl dX2_lowerTo_13 ?_
  refine lv_iload_n C.1 C.2.1 dX2_lowerTo_16 rfl (lv_at hl 0 rfl) ?_
  refine lv_isub C.1 C.2.1 dX2_lowerTo_17 ?_
  refine hv_put (ci := 3) (Cn := RX2) (T := TX2) (N := 3) (ref := "DividendDesk$Payment") (ty := .int) (v := .int (he - (lowF he p0))) C I fa wX2 tyX2 tyX2_ok nmX2 rfl 2 (by decide) (by decide +kernel) (fun _ h9 => h9) rfl (by decide +kernel) rfl rfl (Nat.le_of_ble_eq_true rfl) dX2_lowerTo_18 (fun H locs I => ?_)
  have I : hv_I G h s (hv_up h a (.inr (3, [.int am, .ref pl, .int (he - (lowF he p0))]))) H locs := I
  obtain ⟨h_2, eh_2⟩ : ∃ z, z = hv_up h a (.inr (3, [.int am, .ref pl, .int (he - (lowF he p0))])) := ⟨_, rfl⟩
  have I : hv_I G h s h_2 H locs := by rw [eh_2]; exact I
  have fa9 : h_2 a = some (.inr (3, [.int am, .ref pl, .int (he - (lowF he p0))])) := by rw [eh_2]; exact hv_up_eq
  have fa := fa9
  refine lv_iload_n C.1 C.2.1 dX2_lowerTo_21 rfl (lv_at hl 0 rfl) ?_
  exact hv_iret (v := (lowF he p0)) C hr I (⟨rfl, eh_2⟩) dX2_lowerTo_22 (Nat.le_of_ble_eq_true rfl) (Nat.le_of_ble_eq_true rfl)

set_option maxHeartbeats 4000000 in
set_option maxRecDepth 100000 in
theorem c_X4_giveBack (l : Launch) (G : hv_G) (h : hv) (sz : Nat) {ad : Nat → Nat → Nat} {n d dl : Nat} {dy : Int32} {rf : Int64} {ar : Nat → Nat → Int32} {fm : Nat → Int32} {po : Nat → List (Int32 × Int32 × Int32)} (hD : isD G h ad n d dl dy rf ar fm po) (k8 : Nat) (hm : pmL d (ar 12) k8) (p0 : Int32) : hv_Mi l yX4_giveBack wsX4_giveBack 2 100 0 0 G h sz [.ref (ad 0 0), .ref (ad 8 k8), .int p0] (fun r u => r = lowF (ar 13 k8) p0 ∧ isD G u ad n d dl dy (rf + (lowF (ar 13 k8) p0).toInt64) (va_up ar 13 (upd (ar 13) k8 (ar 13 k8 - lowF (ar 13 k8) p0))) fm po) := by
  have wX4 : ∀ w ∈ wsX40, w ∈ wsX4_giveBack := by decide +kernel
  refine hv_enter (y := yX4_giveBack) (avs := [.ref (ad 0 0), .ref (ad 8 k8), .int p0]) (maxL := 4) (Qf := fun sz => va_Qi (fun r u => r = lowF (ar 13 k8) p0 ∧ isD G u ad n d dl dy (rf + (lowF (ar 13 k8) p0).toInt64) (va_up ar 13 (upd (ar 13) k8 (ar 13 k8 - lowF (ar 13 k8) p0))) fm po) (hv_Bq G h sz) (hv_A h sz)) (by decide) rfl rfl (Nat.le_of_ble_eq_true rfl) ?_
  intro p e s m below meth c hr hnm C I ls hl
  have hl : lv_has ls 4 [(0, .ref (ad 0 0)), (1, .ref (ad 8 k8)), (2, .int p0)] := hl
  refine lv_aload_n C.1 C.2.1 dX4_giveBack_0 rfl (lv_at hl 1 rfl) ?_
  refine lv_iload_n C.1 C.2.1 dX4_giveBack_1 rfl (lv_at hl 2 rfl) ?_
  refine hv_ki I (va_runVN (As := [.int p0]) (rest := []) C.fix (c_X2_lowerTo l G h _ (isD_8 hD hm) p0) ⟨va_cnB 1 C.2.2.2.2.1 gX4_giveBack_X2_lowerTo_n235 rfl rfl rfl (C.nw (w := .methodLinkNest RX4 235 yX2_lowerTo "DividendDesk") (by decide +kernel)) (C.ts (by decide +kernel)) (by decide +kernel) ⟨Nat.le_of_ble_eq_true rfl, Nat.le_of_ble_eq_true rfl⟩, C.ts (by decide +kernel), C.ts (by decide +kernel)⟩ (hv_preV C I (isD_8 hD hm) (r := (RX2, TX2, 3)) rfl) rfl rfl hl.1 rfl (lv_room (Nat.le_of_ble_eq_true rfl)) dX4_giveBack_2 ⟨Nat.le_of_ble_eq_true rfl, Nat.le_of_ble_eq_true rfl⟩) (fun ru_1 u_1 H locs pu_1 I => ?_)
  obtain ⟨e1, pu_1⟩ := pu_1; have e1 := e1.symm; subst e1
  have hD : isD G u_1 ad n d dl dy rf (va_up ar 13 (upd (ar 13) k8 (ar 13 k8 - lowF (ar 13 k8) p0))) fm po := isD_held hD hm pu_1
  refine lv_istore_n (lv' := [(3, .int (lowF (ar 13 k8) p0)), (0, .ref (ad 0 0)), (1, .ref (ad 8 k8)), (2, .int p0)]) C.1 C.2.1 dX4_giveBack_5 rfl hl (by decide) rfl (fun ls hl => ?_)
  refine lv_aload_n C.1 C.2.1 dX4_giveBack_6 rfl (lv_at hl 1 rfl) ?_
  refine lv_dup C.1 C.2.1 dX4_giveBack_7 rfl ?_
  refine hv_get (ci := 5) (Cn := RX4) (T := TX4) (N := 6) (ref := "DividendDesk") (v := .long rf) C I (isD_0 hD) wX4 rfl 5 (by decide) (by decide +kernel) (fun _ h9 => h9) rfl dX4_giveBack_8 ?_
  refine lv_iload_n C.1 C.2.1 dX4_giveBack_11 rfl (lv_at hl 0 rfl) ?_
  refine lv_i2l C.1 C.2.1 dX4_giveBack_12 rfl ?_
  refine lv_ladd C.1 C.2.1 dX4_giveBack_13 ?_
  refine hv_put (ci := 5) (Cn := RX4) (T := TX4) (N := 6) (ref := "DividendDesk") (ty := .long) (v := .long (rf + ((lowF (ar 13 k8) p0).toInt64))) C I (isD_0 hD) wX4 tyX4 tyX4_ok nmX4 rfl 5 (by decide) (by decide +kernel) (fun _ h9 => h9) rfl (by decide +kernel) rfl rfl (Nat.le_of_ble_eq_true rfl) dX4_giveBack_14 (fun H locs I => ?_)
  have I : hv_I G h s (hv_up u_1 (ad 0 0) (.inr (5, [.ref (ad 1 0), .ref (ad 1 1), .ref (ad 2 0), .ref (ad 2 1), .int dy, .long (rf + ((lowF (ar 13 k8) p0).toInt64))]))) H locs := I
  obtain ⟨h_2, eh_2⟩ : ∃ z, z = hv_up u_1 (ad 0 0) (.inr (5, [.ref (ad 1 0), .ref (ad 1 1), .ref (ad 2 0), .ref (ad 2 1), .int dy, .long (rf + ((lowF (ar 13 k8) p0).toInt64))])) := ⟨_, rfl⟩
  have I : hv_I G h s h_2 H locs := by rw [eh_2]; exact I
  have hD : isD G h_2 ad n d dl dy (rf + ((lowF (ar 13 k8) p0).toInt64)) (va_up ar 13 (upd (ar 13) k8 (ar 13 k8 - lowF (ar 13 k8) p0))) fm po := isD_dk hD eh_2
  refine lv_iload_n C.1 C.2.1 dX4_giveBack_17 rfl (lv_at hl 0 rfl) ?_
  exact hv_iret (v := (lowF (ar 13 k8) p0)) C hr I (⟨rfl, hD⟩) dX4_giveBack_18 (Nat.le_of_ble_eq_true rfl) (Nat.le_of_ble_eq_true rfl)

set_option maxHeartbeats 4000000 in
set_option maxRecDepth 100000 in
theorem c_X0_paymentTo (l : Launch) (G : hv_G) (h : hv) (sz : Nat) {a pa : Nat} {pd fo : Int32} (fa : h a = some (.inr (1, [.int pd, .int fo, .ref pa]))) {f : Nat → Option Nat} (fm : h pa = some (.inl (G.2.1 2, 20, .inr (.inr (.inr (.inr f)))))) (j : Nat) (hj : j < 20) : hv_Mq l yX0_paymentTo wsX0_paymentTo 0 0 0 0 G h sz [.ref a, .int (nI j)] (fun r u => u = h ∧ r = f j) := by
  have wX0 : ∀ w ∈ wsX00, w ∈ wsX0_paymentTo := by decide +kernel
  refine hv_enter (y := yX0_paymentTo) (avs := [.ref a, .int (nI j)]) (maxL := 2) (Qf := fun sz => va_Qq (fun r u => u = h ∧ r = f j) (hv_Bq G h sz) (hv_A h sz)) (by decide) rfl rfl (Nat.le_of_ble_eq_true rfl) ?_
  intro p e s m below meth c hr hnm C I ls hl
  have hl : lv_has ls 2 [(0, .ref a), (1, .int (nI j))] := hl
  refine lv_iload_n C.1 C.2.1 dX0_paymentTo_0 rfl (lv_at hl 1 rfl) ?_
  refine lv_if_lt (tgt := 22) C.1 C.2.1 dX0_paymentTo_1 (by decide) (fun c1 => ?_) (fun c1 => ?_)
  · exact absurd c1 (show ¬ nI j < 0 from nI_nlt (Nat.zero_le _) (by omega))
  · refine lv_iload_n C.1 C.2.1 dX0_paymentTo_4 rfl (lv_at hl 1 rfl) ?_
    refine lv_aload_n C.1 C.2.1 dX0_paymentTo_5 rfl (lv_at hl 0 rfl) ?_
    refine hv_get (ci := 1) (Cn := RX0) (T := TX0) (N := 3) (ref := "DividendDesk$Dividend") (v := .ref pa) C I fa wX0 rfl 2 (by decide) (by decide +kernel) (fun _ h9 => h9) rfl dX0_paymentTo_6 ?_
    refine hv_alen (v := 20) C I fm 2 rfl rfl dX0_paymentTo_9 ?_
    refine lv_icmp_ge (tgt := 22) C.1 C.2.1 dX0_paymentTo_10 (by decide) (fun c10 => ?_) (fun c10 => ?_)
    · exact absurd c10 (fun z => absurd ((nI_leI (a := 20) (b := j) (by decide) (by omega)).mp z) (by omega))
    · refine lv_aload_n C.1 C.2.1 dX0_paymentTo_13 rfl (lv_at hl 0 rfl) ?_
      refine hv_get (ci := 1) (Cn := RX0) (T := TX0) (N := 3) (ref := "DividendDesk$Dividend") (v := .ref pa) C I fa wX0 rfl 2 (by decide) (by decide +kernel) (fun _ h9 => h9) rfl dX0_paymentTo_14 ?_
      refine lv_iload_n C.1 C.2.1 dX0_paymentTo_17 rfl (lv_at hl 1 rfl) ?_
      refine hv_paldN C I fm hj (by decide) dX0_paymentTo_18 ?_
      refine lv_goto (tgt := 23) C.1 C.2.1 dX0_paymentTo_19 (by decide) ?_
      exact hv_qret (r := f j) C hr (Or.inl ⟨_, rfl⟩) I (⟨rfl, rfl⟩) dX0_paymentTo_23 (Nat.le_of_ble_eq_true rfl) (Nat.le_of_ble_eq_true rfl)
