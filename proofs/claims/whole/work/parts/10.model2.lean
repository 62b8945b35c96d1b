/-! ===== the reference, the rest ===== -/
theorem cz_yes {f : Int32} (h : cz f = 0) : ¬ f = 0 := by
  intro z
  subst z
  exact absurd h (by decide)
theorem cz_no {f : Int32} (h : ¬ cz f = 0) : f = 0 := by
  unfold cz at h
  by_cases c : f = 0
  · exact c
  · simp [c] at h
theorem cz_bool (f : Int32) : narrow .boolean (.int (cz f)) = .int (cz f) := by unfold cz; split <;> rfl
def fAk (a : Int32) (n : Nat) : Int32 := if iw a 0 (nI n - 1) = 0 then 1 else 0
theorem fAk_0 {a : Int32} {n : Nat} (h : fAk a n = 0) : ¬ iw a 0 (nI n - 1) = 0 := by
  intro z
  simp [fAk, z] at h
def fAa (a b : Int32) (n d : Nat) : Int32 := if iw a 0 (nI d - 1) = 0 then 1 else if iw b 0 (nI n - 1) = 0 then 1 else 0
theorem fAa_0 {a b : Int32} {n d : Nat} (h : fAa a b n d = 0) : ¬ iw a 0 (nI d - 1) = 0 ∧ ¬ iw b 0 (nI n - 1) = 0 := by
  refine ⟨fun z => ?_, fun z => ?_⟩
  · simp [fAa, z] at h
  · by_cases c : iw a 0 (nI d - 1) = 0 <;> simp [fAa, z, c] at h
theorem iwh_lt {p : Int32} {n : Nat} (hn : n ≤ 1000) (h : ¬ iw p 0 (nI n - 1) = 0) : p.toNatClampNeg < n := by
  obtain ⟨j, hj, rfl⟩ := iwh_ex hn h
  rw [nI_clamp (by omega)]
  exact hj
def rt (g lg L : Int32) : Int32 := if L = 0 then g else if g ≤ lg then g else lg
theorem ixN (D j : Nat) : 20 * nI D + nI j = nI (20 * D + j) := by
  rw [show (20 : Int32) = nI 20 from rfl, pk_mul, nI_add]
theorem ixM (D j : Nat) : 20 * nI (20 * D + j) = nI (20 * (20 * D + j)) := by
  rw [show (20 : Int32) = nI 20 from rfl, pk_mul]
theorem vp_nar_hf (a b : Int32) : vp_nar .boolean (hf a b) = hf a b := by unfold hf; split <;> rfl
theorem hf01 (a b : Int32) : hf a b = 0 ∨ hf a b = 1 := by unfold hf; split <;> simp
theorem hlg01 (a b c d : Int32) : hlg a b c d = 0 ∨ hlg a b c d = 1 := by unfold hlg; split <;> (try split) <;> (try split) <;> (try split) <;> simp
theorem cnt01 (a b c d e : Int32) : cnt a b c d e = 0 ∨ cnt a b c d e = 1 := by unfold cnt; split <;> (try split) <;> (try split) <;> (try split) <;> simp
theorem hf01n {a b : Int32} (h : ¬ hf a b = 0) : 1 = hf a b := ((hf01 a b).resolve_left h).symm
theorem hlg01n {a b c d : Int32} (h : ¬ hlg a b c d = 0) : 1 = hlg a b c d := ((hlg01 a b c d).resolve_left h).symm
def rtF (dy : Int32) (ge la kd ld sh es : Nat → Int32) (k : Nat) : Int32 := rt (ge (ld k).toNatClampNeg) (la (ld k).toNatClampNeg) (hlg (kd k) (sh k) (es k) dy)
def fRt (a : Int32) (n : Nat) (kd : Nat → Int32) : Int32 := if iw a 0 (nI n - 1) = 0 then 1 else if kd a.toNatClampNeg = 2 then 2 else 0
set_option maxHeartbeats 4000000 in
set_option maxRecDepth 100000 in
theorem c_X5_isAsked (l : Launch) (G : hv_G) (h : hv) (sz : Nat) {o : Nat} {ad : Nat → Nat} {dy : Int32} {n d : Nat} {rf : Int64} {th : Int32} {ar : Nat → Nat → Int32} (hM : isM G h o ad dy n d rf th ar) (p0 : Int32) : hv_Mi l yX5_isAsked wsX5_isAsked 2 60 0 0 G h sz [.ref o, .int p0] (fun r u => r = cz (fAk p0 n) ∧ isM G u o ad dy n d rf (fAk p0 n) ar) := by
  refine hv_enter (y := yX5_isAsked) (avs := [.ref o, .int p0]) (maxL := 2) (Qf := fun sz => va_Qi (fun r u => r = cz (fAk p0 n) ∧ isM G u o ad dy n d rf (fAk p0 n) ar) (hv_Bq G h sz) (hv_A h sz)) (by decide) rfl rfl (Nat.le_of_ble_eq_true rfl) ?_
  intro p e s m below meth c hr hnm C I ls hl
  have hl : lv_has ls 2 [(0, .ref o), (1, .int p0)] := hl
  refine lv_aload_n C.1 C.2.1 dX5_isAsked_0 rfl (lv_at hl 0 rfl) ?_
  refine lv_aload_n C.1 C.2.1 dX5_isAsked_1 rfl (lv_at hl 0 rfl) ?_
  refine lv_iload_n C.1 C.2.1 dX5_isAsked_2 rfl (lv_at hl 1 rfl) ?_
  refine hv_ki I (va_runV (As := [.int p0]) (rest := [.ref o]) C.fix (c_X5_isHolder l G h _ hM p0) (cwV 1 C.2.2.2.2.1 gX5_isAsked_X5_isHolder rfl rfl rfl (by decide +kernel) ⟨Nat.le_of_ble_eq_true rfl, Nat.le_of_ble_eq_true rfl⟩) (hv_preV C I hM.1 (r := (RX5, TX5, 21)) rfl) rfl rfl hl.1 rfl (lv_room (Nat.le_of_ble_eq_true rfl)) dX5_isAsked_3 ⟨Nat.le_of_ble_eq_true rfl, Nat.le_of_ble_eq_true rfl⟩) (fun ru_1 u_1 H locs pu_1 I => ?_)
  obtain ⟨e1, e2⟩ := pu_1; have e1 := e1.symm; subst e1; have e2 := e2.symm; subst e2
  refine lv_if_eq (tgt := 13) C.1 C.2.1 dX5_isAsked_6 (by decide) (fun c6 => ?_) (fun c6 => ?_)
  · refine lv_iconst (v := 1) C.1 C.2.1 dX5_isAsked_13 (by decide) ?_
    refine hv_ki I (va_runV (As := [.int 1]) (rest := []) C.fix (c_X5_can l G h _ hM 1) (cwV 1 C.2.2.2.2.1 gX5_isAsked_X5_can rfl rfl rfl (by decide +kernel) ⟨Nat.le_of_ble_eq_true rfl, Nat.le_of_ble_eq_true rfl⟩) (hv_preV C I hM.1 (r := (RX5, TX5, 21)) rfl) rfl rfl hl.1 rfl (lv_room (Nat.le_of_ble_eq_true rfl)) dX5_isAsked_14 ⟨Nat.le_of_ble_eq_true rfl, Nat.le_of_ble_eq_true rfl⟩) (fun ru_2 u_2 H locs pu_2 I => ?_)
    obtain ⟨e1, hM⟩ := pu_2; have e1 := e1.symm; subst e1
    exact hv_zret (v := (cz 1)) C hr I (cz_bool _) ((fun eF => ⟨by rw [eF], by rw [eF]; exact hM⟩) (show fAk p0 n = 1 by unfold fAk; first | (simp [c6]; done) | ((repeat' split) <;> first | rfl | contradiction))) dX5_isAsked_17 (Nat.le_of_ble_eq_true rfl) (Nat.le_of_ble_eq_true rfl)
  · refine lv_iconst (v := 0) C.1 C.2.1 dX5_isAsked_9 (by decide) ?_
    refine lv_goto (tgt := 14) C.1 C.2.1 dX5_isAsked_10 (by decide) ?_
    refine hv_ki I (va_runV (As := [.int 0]) (rest := []) C.fix (c_X5_can l G h _ hM 0) (cwV 1 C.2.2.2.2.1 gX5_isAsked_X5_can rfl rfl rfl (by decide +kernel) ⟨Nat.le_of_ble_eq_true rfl, Nat.le_of_ble_eq_true rfl⟩) (hv_preV C I hM.1 (r := (RX5, TX5, 21)) rfl) rfl rfl hl.1 rfl (lv_room (Nat.le_of_ble_eq_true rfl)) dX5_isAsked_14 ⟨Nat.le_of_ble_eq_true rfl, Nat.le_of_ble_eq_true rfl⟩) (fun ru_3 u_3 H locs pu_3 I => ?_)
    obtain ⟨e1, hM⟩ := pu_3; have e1 := e1.symm; subst e1
    exact hv_zret (v := (cz 0)) C hr I (cz_bool _) ((fun eF => ⟨by rw [eF], by rw [eF]; exact hM⟩) (show fAk p0 n = 0 by unfold fAk; first | (simp [c6]; done) | ((repeat' split) <;> first | rfl | contradiction))) dX5_isAsked_17 (Nat.le_of_ble_eq_true rfl) (Nat.le_of_ble_eq_true rfl)

set_option maxHeartbeats 4000000 in
set_option maxRecDepth 100000 in
theorem c_X5_areAsked (l : Launch) (G : hv_G) (h : hv) (sz : Nat) {o : Nat} {ad : Nat → Nat} {dy : Int32} {n d : Nat} {rf : Int64} {th : Int32} {ar : Nat → Nat → Int32} (hM : isM G h o ad dy n d rf th ar) (p0 p1 : Int32) : hv_Mi l yX5_areAsked wsX5_areAsked 2 60 0 0 G h sz [.ref o, .int p0, .int p1] (fun r u => r = cz (fAa p0 p1 n d) ∧ isM G u o ad dy n d rf (fAa p0 p1 n d) ar) := by
  refine hv_enter (y := yX5_areAsked) (avs := [.ref o, .int p0, .int p1]) (maxL := 3) (Qf := fun sz => va_Qi (fun r u => r = cz (fAa p0 p1 n d) ∧ isM G u o ad dy n d rf (fAa p0 p1 n d) ar) (hv_Bq G h sz) (hv_A h sz)) (by decide) rfl rfl (Nat.le_of_ble_eq_true rfl) ?_
  intro p e s m below meth c hr hnm C I ls hl
  have hl : lv_has ls 3 [(0, .ref o), (1, .int p0), (2, .int p1)] := hl
  refine lv_aload_n C.1 C.2.1 dX5_areAsked_0 rfl (lv_at hl 0 rfl) ?_
  refine lv_aload_n C.1 C.2.1 dX5_areAsked_1 rfl (lv_at hl 0 rfl) ?_
  refine lv_iload_n C.1 C.2.1 dX5_areAsked_2 rfl (lv_at hl 1 rfl) ?_
  refine hv_ki I (va_runV (As := [.int p0]) (rest := [.ref o]) C.fix (c_X5_isDividend l G h _ hM p0) (cwV 1 C.2.2.2.2.1 gX5_areAsked_X5_isDividend rfl rfl rfl (by decide +kernel) ⟨Nat.le_of_ble_eq_true rfl, Nat.le_of_ble_eq_true rfl⟩) (hv_preV C I hM.1 (r := (RX5, TX5, 21)) rfl) rfl rfl hl.1 rfl (lv_room (Nat.le_of_ble_eq_true rfl)) dX5_areAsked_3 ⟨Nat.le_of_ble_eq_true rfl, Nat.le_of_ble_eq_true rfl⟩) (fun ru_1 u_1 H locs pu_1 I => ?_)
  obtain ⟨e1, e2⟩ := pu_1; have e1 := e1.symm; subst e1; have e2 := e2.symm; subst e2
  refine lv_if_eq (tgt := 21) C.1 C.2.1 dX5_areAsked_6 (by decide) (fun c6 => ?_) (fun c6 => ?_)
  · refine lv_iconst (v := 1) C.1 C.2.1 dX5_areAsked_21 (by decide) ?_
    refine hv_ki I (va_runV (As := [.int 1]) (rest := []) C.fix (c_X5_can l G h _ hM 1) (cwV 1 C.2.2.2.2.1 gX5_areAsked_X5_can rfl rfl rfl (by decide +kernel) ⟨Nat.le_of_ble_eq_true rfl, Nat.le_of_ble_eq_true rfl⟩) (hv_preV C I hM.1 (r := (RX5, TX5, 21)) rfl) rfl rfl hl.1 rfl (lv_room (Nat.le_of_ble_eq_true rfl)) dX5_areAsked_22 ⟨Nat.le_of_ble_eq_true rfl, Nat.le_of_ble_eq_true rfl⟩) (fun ru_2 u_2 H locs pu_2 I => ?_)
    obtain ⟨e1, hM⟩ := pu_2; have e1 := e1.symm; subst e1
    exact hv_zret (v := (cz 1)) C hr I (cz_bool _) ((fun eF => ⟨by rw [eF], by rw [eF]; exact hM⟩) (show fAa p0 p1 n d = 1 by unfold fAa; first | (simp [c6]; done) | ((repeat' split) <;> first | rfl | contradiction))) dX5_areAsked_25 (Nat.le_of_ble_eq_true rfl) (Nat.le_of_ble_eq_true rfl)
  · refine lv_aload_n C.1 C.2.1 dX5_areAsked_9 rfl (lv_at hl 0 rfl) ?_
    refine lv_iload_n C.1 C.2.1 dX5_areAsked_10 rfl (lv_at hl 2 rfl) ?_
    refine hv_ki I (va_runV (As := [.int p1]) (rest := [.ref o]) C.fix (c_X5_isHolder l G h _ hM p1) (cwV 1 C.2.2.2.2.1 gX5_areAsked_X5_isHolder rfl rfl rfl (by decide +kernel) ⟨Nat.le_of_ble_eq_true rfl, Nat.le_of_ble_eq_true rfl⟩) (hv_preV C I hM.1 (r := (RX5, TX5, 21)) rfl) rfl rfl hl.1 rfl (lv_room (Nat.le_of_ble_eq_true rfl)) dX5_areAsked_11 ⟨Nat.le_of_ble_eq_true rfl, Nat.le_of_ble_eq_true rfl⟩) (fun ru_3 u_3 H locs pu_3 I => ?_)
    obtain ⟨e1, e2⟩ := pu_3; have e1 := e1.symm; subst e1; have e2 := e2.symm; subst e2
    refine lv_if_eq (tgt := 21) C.1 C.2.1 dX5_areAsked_14 (by decide) (fun c14 => ?_) (fun c14 => ?_)
    · refine lv_iconst (v := 1) C.1 C.2.1 dX5_areAsked_21 (by decide) ?_
      refine hv_ki I (va_runV (As := [.int 1]) (rest := []) C.fix (c_X5_can l G h _ hM 1) (cwV 1 C.2.2.2.2.1 gX5_areAsked_X5_can rfl rfl rfl (by decide +kernel) ⟨Nat.le_of_ble_eq_true rfl, Nat.le_of_ble_eq_true rfl⟩) (hv_preV C I hM.1 (r := (RX5, TX5, 21)) rfl) rfl rfl hl.1 rfl (lv_room (Nat.le_of_ble_eq_true rfl)) dX5_areAsked_22 ⟨Nat.le_of_ble_eq_true rfl, Nat.le_of_ble_eq_true rfl⟩) (fun ru_4 u_4 H locs pu_4 I => ?_)
      obtain ⟨e1, hM⟩ := pu_4; have e1 := e1.symm; subst e1
      exact hv_zret (v := (cz 1)) C hr I (cz_bool _) ((fun eF => ⟨by rw [eF], by rw [eF]; exact hM⟩) (show fAa p0 p1 n d = 1 by unfold fAa; first | (simp [c6, c14]; done) | ((repeat' split) <;> first | rfl | contradiction))) dX5_areAsked_25 (Nat.le_of_ble_eq_true rfl) (Nat.le_of_ble_eq_true rfl)
    · refine lv_iconst (v := 0) C.1 C.2.1 dX5_areAsked_17 (by decide) ?_
      refine lv_goto (tgt := 22) C.1 C.2.1 dX5_areAsked_18 (by decide) ?_
      refine hv_ki I (va_runV (As := [.int 0]) (rest := []) C.fix (c_X5_can l G h _ hM 0) (cwV 1 C.2.2.2.2.1 gX5_areAsked_X5_can rfl rfl rfl (by decide +kernel) ⟨Nat.le_of_ble_eq_true rfl, Nat.le_of_ble_eq_true rfl⟩) (hv_preV C I hM.1 (r := (RX5, TX5, 21)) rfl) rfl rfl hl.1 rfl (lv_room (Nat.le_of_ble_eq_true rfl)) dX5_areAsked_22 ⟨Nat.le_of_ble_eq_true rfl, Nat.le_of_ble_eq_true rfl⟩) (fun ru_5 u_5 H locs pu_5 I => ?_)
      obtain ⟨e1, hM⟩ := pu_5; have e1 := e1.symm; subst e1
      exact hv_zret (v := (cz 0)) C hr I (cz_bool _) ((fun eF => ⟨by rw [eF], by rw [eF]; exact hM⟩) (show fAa p0 p1 n d = 0 by unfold fAa; first | (simp [c6, c14]; done) | ((repeat' split) <;> first | rfl | contradiction))) dX5_areAsked_25 (Nat.le_of_ble_eq_true rfl) (Nat.le_of_ble_eq_true rfl)

set_option maxHeartbeats 4000000 in
set_option maxRecDepth 100000 in
theorem c_X5_hasForm (l : Launch) (G : hv_G) (h : hv) (sz : Nat) {o : Nat} {ad : Nat → Nat} {dy : Int32} {n d : Nat} {rf : Int64} {th : Int32} {ar : Nat → Nat → Int32} (hM : isM G h o ad dy n d rf th ar) (k : Nat) (hk : k < 20) : hv_Mi l yX5_hasForm wsX5_hasForm 0 0 0 0 G h sz [.ref o, .int (nI k)] (fun r u => u = h ∧ r = hf dy (ar 7 k)) := by
  have wX5 : ∀ w ∈ wsX50, w ∈ wsX5_hasForm := by decide +kernel
  refine hv_enter (y := yX5_hasForm) (avs := [.ref o, .int (nI k)]) (maxL := 2) (Qf := fun sz => va_Qi (fun r u => u = h ∧ r = hf dy (ar 7 k)) (hv_Bq G h sz) (hv_A h sz)) (by decide) rfl rfl (Nat.le_of_ble_eq_true rfl) ?_
  intro p e s m below meth c hr hnm C I ls hl
  have hl : lv_has ls 2 [(0, .ref o), (1, .int (nI k))] := hl
  refine lv_aload_n C.1 C.2.1 dX5_hasForm_0 rfl (lv_at hl 0 rfl) ?_
  refine hv_get (ci := 6) (Cn := RX5) (T := TX5) (N := 21) (ref := "DividendDeskModel") (v := .ref (ad 7)) C I hM.1 wX5 rfl 7 (by decide) (by decide +kernel) (fun _ h9 => h9) rfl dX5_hasForm_1 ?_
  refine lv_iload_n C.1 C.2.1 dX5_hasForm_4 rfl (lv_at hl 1 rfl) ?_
  refine hv_ialdN (n := 20) (f := ar 7) C I (isM_a hM 7 rfl) hk (by decide) dX5_hasForm_5 ?_
  refine lv_aload_n C.1 C.2.1 dX5_hasForm_6 rfl (lv_at hl 0 rfl) ?_
  refine hv_get (ci := 6) (Cn := RX5) (T := TX5) (N := 21) (ref := "DividendDeskModel") (v := .int dy) C I hM.1 wX5 rfl 0 (by decide) (by decide +kernel) (fun _ h9 => h9) rfl dX5_hasForm_7 ?_
  refine lv_icmp_lt (tgt := 17) C.1 C.2.1 dX5_hasForm_10 (by decide) (fun c10 => ?_) (fun c10 => ?_)
  · refine lv_iconst (v := 0) C.1 C.2.1 dX5_hasForm_17 (by decide) ?_
    exact hv_zret (v := 0) C hr I rfl (⟨rfl, by unfold hf; simp [c10]⟩) dX5_hasForm_18 (Nat.le_of_ble_eq_true rfl) (Nat.le_of_ble_eq_true rfl)
  · refine lv_iconst (v := 1) C.1 C.2.1 dX5_hasForm_13 (by decide) ?_
    refine lv_goto (tgt := 18) C.1 C.2.1 dX5_hasForm_14 (by decide) ?_
    exact hv_zret (v := 1) C hr I rfl (⟨rfl, by unfold hf; simp [c10]⟩) dX5_hasForm_18 (Nat.le_of_ble_eq_true rfl) (Nat.le_of_ble_eq_true rfl)

theorem c_X5_hasForm_p (l : Launch) (G : hv_G) (h : hv) (sz : Nat) {o : Nat} {ad : Nat → Nat} {dy : Int32} {n d : Nat} {rf : Int64} {th : Int32} {ar : Nat → Nat → Int32} (hM : isM G h o ad dy n d rf th ar) (p0 : Int32) (hp0 : vp_in p0 20) : hv_Mi l yX5_hasForm wsX5_hasForm 0 0 0 0 G h sz [.ref o, .int p0] (fun r u => u = h ∧ r = hf dy (ar 7 p0.toNatClampNeg)) := by
  obtain ⟨k, hk, rfl⟩ := vp_in_of hp0 (by decide)
  simp only [nI_clamp (show k < 2 ^ 31 by omega)]
  exact c_X5_hasForm l G h sz hM k hk

set_option maxHeartbeats 4000000 in
set_option maxRecDepth 100000 in
theorem c_X5_holdsLarge (l : Launch) (G : hv_G) (h : hv) (sz : Nat) {o : Nat} {ad : Nat → Nat} {dy : Int32} {n d : Nat} {rf : Int64} {th : Int32} {ar : Nat → Nat → Int32} (hM : isM G h o ad dy n d rf th ar) (k : Nat) (hk : k < 20) : hv_Mi l yX5_holdsLarge wsX5_holdsLarge 0 0 0 0 G h sz [.ref o, .int (nI k)] (fun r u => u = h ∧ r = hlg (ar 4 k) (ar 6 k) (ar 8 k) dy) := by
  have wX5 : ∀ w ∈ wsX50, w ∈ wsX5_holdsLarge := by decide +kernel
  refine hv_enter (y := yX5_holdsLarge) (avs := [.ref o, .int (nI k)]) (maxL := 2) (Qf := fun sz => va_Qi (fun r u => u = h ∧ r = hlg (ar 4 k) (ar 6 k) (ar 8 k) dy) (hv_Bq G h sz) (hv_A h sz)) (by decide) rfl rfl (Nat.le_of_ble_eq_true rfl) ?_
  intro p e s m below meth c hr hnm C I ls hl
  have hl : lv_has ls 2 [(0, .ref o), (1, .int (nI k))] := hl
  refine lv_aload_n C.1 C.2.1 dX5_holdsLarge_0 rfl (lv_at hl 0 rfl) ?_
  refine hv_get (ci := 6) (Cn := RX5) (T := TX5) (N := 21) (ref := "DividendDeskModel") (v := .ref (ad 4)) C I hM.1 wX5 rfl 4 (by decide) (by decide +kernel) (fun _ h9 => h9) rfl dX5_holdsLarge_1 ?_
  refine lv_iload_n C.1 C.2.1 dX5_holdsLarge_4 rfl (lv_at hl 1 rfl) ?_
  refine hv_ialdN (n := 20) (f := ar 4) C I (isM_a hM 4 rfl) hk (by decide) dX5_holdsLarge_5 ?_
  refine lv_iconst (v := 1) C.1 C.2.1 dX5_holdsLarge_6 (by decide) ?_
  refine lv_icmp_ne (tgt := 52) C.1 C.2.1 dX5_holdsLarge_7 (by decide) (fun c7 => ?_) (fun c7 => ?_)
  · refine lv_iconst (v := 0) C.1 C.2.1 dX5_holdsLarge_52 (by decide) ?_
    exact hv_zret (v := 0) C hr I rfl (⟨rfl, by unfold hlg; first | (simp [c7]; done) | ((repeat' split) <;> first | rfl | contradiction)⟩) dX5_holdsLarge_53 (Nat.le_of_ble_eq_true rfl) (Nat.le_of_ble_eq_true rfl)
  · refine lv_aload_n C.1 C.2.1 dX5_holdsLarge_10 rfl (lv_at hl 0 rfl) ?_
    refine hv_get (ci := 6) (Cn := RX5) (T := TX5) (N := 21) (ref := "DividendDeskModel") (v := .ref (ad 6)) C I hM.1 wX5 rfl 6 (by decide) (by decide +kernel) (fun _ h9 => h9) rfl dX5_holdsLarge_11 ?_
    refine lv_iload_n C.1 C.2.1 dX5_holdsLarge_14 rfl (lv_at hl 1 rfl) ?_
    refine hv_ialdN (n := 20) (f := ar 6) C I (isM_a hM 6 rfl) hk (by decide) dX5_holdsLarge_15 ?_
    refine lv_ldc C.1 C.2.1 C.2.2.2.1 (C.ts (w := .constant RX5 88 (100000)) (by decide +kernel)) dX5_holdsLarge_16 ?_
    refine lv_icmp_lt (tgt := 52) C.1 C.2.1 dX5_holdsLarge_18 (by decide) (fun c18 => ?_) (fun c18 => ?_)
    · refine lv_iconst (v := 0) C.1 C.2.1 dX5_holdsLarge_52 (by decide) ?_
      exact hv_zret (v := 0) C hr I rfl (⟨rfl, by unfold hlg; first | (simp [c7, c18]; done) | ((repeat' split) <;> first | rfl | contradiction)⟩) dX5_holdsLarge_53 (Nat.le_of_ble_eq_true rfl) (Nat.le_of_ble_eq_true rfl)
    · refine lv_aload_n C.1 C.2.1 dX5_holdsLarge_21 rfl (lv_at hl 0 rfl) ?_
      refine hv_get (ci := 6) (Cn := RX5) (T := TX5) (N := 21) (ref := "DividendDeskModel") (v := .ref (ad 8)) C I hM.1 wX5 rfl 8 (by decide) (by decide +kernel) (fun _ h9 => h9) rfl dX5_holdsLarge_22 ?_
      refine lv_iload_n C.1 C.2.1 dX5_holdsLarge_25 rfl (lv_at hl 1 rfl) ?_
      refine hv_ialdN (n := 20) (f := ar 8) C I (isM_a hM 8 rfl) hk (by decide) dX5_holdsLarge_26 ?_
      refine lv_iconst (v := (-1)) C.1 C.2.1 dX5_holdsLarge_27 (by decide) ?_
      refine lv_icmp_eq (tgt := 52) C.1 C.2.1 dX5_holdsLarge_28 (by decide) (fun c28 => ?_) (fun c28 => ?_)
      · refine lv_iconst (v := 0) C.1 C.2.1 dX5_holdsLarge_52 (by decide) ?_
        exact hv_zret (v := 0) C hr I rfl (⟨rfl, by unfold hlg; first | (simp [c7, c18, c28]; done) | ((repeat' split) <;> first | rfl | contradiction)⟩) dX5_holdsLarge_53 (Nat.le_of_ble_eq_true rfl) (Nat.le_of_ble_eq_true rfl)
      · refine lv_aload_n C.1 C.2.1 dX5_holdsLarge_31 rfl (lv_at hl 0 rfl) ?_
        refine hv_get (ci := 6) (Cn := RX5) (T := TX5) (N := 21) (ref := "DividendDeskModel") (v := .int dy) C I hM.1 wX5 rfl 0 (by decide) (by decide +kernel) (fun _ h9 => h9) rfl dX5_holdsLarge_32 ?_
        refine lv_aload_n C.1 C.2.1 dX5_holdsLarge_35 rfl (lv_at hl 0 rfl) ?_
        refine hv_get (ci := 6) (Cn := RX5) (T := TX5) (N := 21) (ref := "DividendDeskModel") (v := .ref (ad 8)) C I hM.1 wX5 rfl 8 (by decide) (by decide +kernel) (fun _ h9 => h9) rfl dX5_holdsLarge_36 ?_
        refine lv_iload_n C.1 C.2.1 dX5_holdsLarge_39 rfl (lv_at hl 1 rfl) ?_
        refine hv_ialdN (n := 20) (f := ar 8) C I (isM_a hM 8 rfl) hk (by decide) dX5_holdsLarge_40 ?_
        refine lv_isub C.1 C.2.1 dX5_holdsLarge_41 ?_
        refine lv_sipush (v := 365) C.1 C.2.1 dX5_holdsLarge_42 (by decide) ?_
        refine lv_icmp_lt (tgt := 52) C.1 C.2.1 dX5_holdsLarge_45 (by decide) (fun c45 => ?_) (fun c45 => ?_)
        · refine lv_iconst (v := 0) C.1 C.2.1 dX5_holdsLarge_52 (by decide) ?_
          exact hv_zret (v := 0) C hr I rfl (⟨rfl, by unfold hlg; first | (simp [c7, c18, c28, c45]; done) | ((repeat' split) <;> first | rfl | contradiction)⟩) dX5_holdsLarge_53 (Nat.le_of_ble_eq_true rfl) (Nat.le_of_ble_eq_true rfl)
        · refine lv_iconst (v := 1) C.1 C.2.1 dX5_holdsLarge_48 (by decide) ?_
          refine lv_goto (tgt := 53) C.1 C.2.1 dX5_holdsLarge_49 (by decide) ?_
          exact hv_zret (v := 1) C hr I rfl (⟨rfl, by unfold hlg; first | (simp [c7, c18, c28, c45]; done) | ((repeat' split) <;> first | rfl | contradiction)⟩) dX5_holdsLarge_53 (Nat.le_of_ble_eq_true rfl) (Nat.le_of_ble_eq_true rfl)

theorem c_X5_holdsLarge_p (l : Launch) (G : hv_G) (h : hv) (sz : Nat) {o : Nat} {ad : Nat → Nat} {dy : Int32} {n d : Nat} {rf : Int64} {th : Int32} {ar : Nat → Nat → Int32} (hM : isM G h o ad dy n d rf th ar) (p0 : Int32) (hp0 : vp_in p0 20) : hv_Mi l yX5_holdsLarge wsX5_holdsLarge 0 0 0 0 G h sz [.ref o, .int p0] (fun r u => u = h ∧ r = hlg (ar 4 p0.toNatClampNeg) (ar 6 p0.toNatClampNeg) (ar 8 p0.toNatClampNeg) dy) := by
  obtain ⟨k, hk, rfl⟩ := vp_in_of hp0 (by decide)
  simp only [nI_clamp (show k < 2 ^ 31 by omega)]
  exact c_X5_holdsLarge l G h sz hM k hk

set_option maxHeartbeats 4000000 in
set_option maxRecDepth 100000 in
theorem c_X5_rateOf (l : Launch) (G : hv_G) (h : hv) (sz : Nat) {o : Nat} {ad : Nat → Nat} {dy : Int32} {n d : Nat} {rf : Int64} {th : Int32} {ar : Nat → Nat → Int32} (hM : isM G h o ad dy n d rf th ar) (k : Nat) (hk : k < 20) (hL : vp_in (ar 5 k) 6) : hv_Mi l yX5_rateOf wsX5_rateOf 1 30 0 0 G h sz [.ref o, .int (nI k)] (fun r u => u = h ∧ r = rtF dy (ar 1) (ar 2) (ar 4) (ar 5) (ar 6) (ar 8) k) := by
  have wX5 : ∀ w ∈ wsX50, w ∈ wsX5_rateOf := by decide +kernel
  refine hv_enter (y := yX5_rateOf) (avs := [.ref o, .int (nI k)]) (maxL := 3) (Qf := fun sz => va_Qi (fun r u => u = h ∧ r = rtF dy (ar 1) (ar 2) (ar 4) (ar 5) (ar 6) (ar 8) k) (hv_Bq G h sz) (hv_A h sz)) (by decide) rfl rfl (Nat.le_of_ble_eq_true rfl) ?_
  intro p e s m below meth c hr hnm C I ls hl
  have hl : lv_has ls 3 [(0, .ref o), (1, .int (nI k))] := hl
  refine lv_aload_n C.1 C.2.1 dX5_rateOf_0 rfl (lv_at hl 0 rfl) ?_
  refine hv_get (ci := 6) (Cn := RX5) (T := TX5) (N := 21) (ref := "DividendDeskModel") (v := .ref (ad 1)) C I hM.1 wX5 rfl 1 (by decide) (by decide +kernel) (fun _ h9 => h9) rfl dX5_rateOf_1 ?_
  refine lv_aload_n C.1 C.2.1 dX5_rateOf_4 rfl (lv_at hl 0 rfl) ?_
  refine hv_get (ci := 6) (Cn := RX5) (T := TX5) (N := 21) (ref := "DividendDeskModel") (v := .ref (ad 5)) C I hM.1 wX5 rfl 5 (by decide) (by decide +kernel) (fun _ h9 => h9) rfl dX5_rateOf_5 ?_
  refine lv_iload_n C.1 C.2.1 dX5_rateOf_8 rfl (lv_at hl 1 rfl) ?_
  refine hv_ialdN (n := 20) (f := ar 5) C I (isM_a hM 5 rfl) hk (by decide) dX5_rateOf_9 ?_
  refine hv_iald (n := 6) (f := ar 1) C I (isM_a hM 1 rfl) hL dX5_rateOf_10 ?_
  refine lv_istore_n (lv' := [(2, .int ((ar 1) ((ar 5) k).toNatClampNeg)), (0, .ref o), (1, .int (nI k))]) C.1 C.2.1 dX5_rateOf_11 rfl hl (by decide) rfl (fun ls hl => ?_)
  refine lv_aload_n C.1 C.2.1 dX5_rateOf_12 rfl (lv_at hl 1 rfl) ?_
  refine lv_iload_n C.1 C.2.1 dX5_rateOf_13 rfl (lv_at hl 2 rfl) ?_
  refine hv_ki I (va_runV (As := [.int (nI k)]) (rest := []) C.fix (c_X5_holdsLarge l G h _ hM k hk) (cwV 1 C.2.2.2.2.1 gX5_rateOf_X5_holdsLarge rfl rfl rfl (by decide +kernel) ⟨Nat.le_of_ble_eq_true rfl, Nat.le_of_ble_eq_true rfl⟩) (hv_preV C I hM.1 (r := (RX5, TX5, 21)) rfl) rfl rfl hl.1 rfl (lv_room (Nat.le_of_ble_eq_true rfl)) dX5_rateOf_14 ⟨Nat.le_of_ble_eq_true rfl, Nat.le_of_ble_eq_true rfl⟩) (fun ru_1 u_1 H locs pu_1 I => ?_)
  obtain ⟨e1, e2⟩ := pu_1; have e1 := e1.symm; subst e1; have e2 := e2.symm; subst e2
  refine lv_if_eq (tgt := 49) C.1 C.2.1 dX5_rateOf_17 (by decide) (fun c17 => ?_) (fun c17 => ?_)
  · refine lv_iload_n C.1 C.2.1 dX5_rateOf_49 rfl (lv_at hl 0 rfl) ?_
    exact hv_iret (v := ((ar 1) ((ar 5) k).toNatClampNeg)) C hr I (⟨rfl, by unfold rtF rt; first | (simp [c17]; done) | ((repeat' split) <;> first | rfl | contradiction)⟩) dX5_rateOf_50 (Nat.le_of_ble_eq_true rfl) (Nat.le_of_ble_eq_true rfl)
  · refine lv_aload_n C.1 C.2.1 dX5_rateOf_20 rfl (lv_at hl 1 rfl) ?_
    refine hv_get (ci := 6) (Cn := RX5) (T := TX5) (N := 21) (ref := "DividendDeskModel") (v := .ref (ad 2)) C I hM.1 wX5 rfl 2 (by decide) (by decide +kernel) (fun _ h9 => h9) rfl dX5_rateOf_21 ?_
    refine lv_aload_n C.1 C.2.1 dX5_rateOf_24 rfl (lv_at hl 1 rfl) ?_
    refine hv_get (ci := 6) (Cn := RX5) (T := TX5) (N := 21) (ref := "DividendDeskModel") (v := .ref (ad 5)) C I hM.1 wX5 rfl 5 (by decide) (by decide +kernel) (fun _ h9 => h9) rfl dX5_rateOf_25 ?_
    refine lv_iload_n C.1 C.2.1 dX5_rateOf_28 rfl (lv_at hl 2 rfl) ?_
    refine hv_ialdN (n := 20) (f := ar 5) C I (isM_a hM 5 rfl) hk (by decide) dX5_rateOf_29 ?_
    refine hv_iald (n := 6) (f := ar 2) C I (isM_a hM 2 rfl) hL dX5_rateOf_30 ?_
    refine lv_iload_n C.1 C.2.1 dX5_rateOf_31 rfl (lv_at hl 0 rfl) ?_
    refine lv_icmp_ge (tgt := 49) C.1 C.2.1 dX5_rateOf_32 (by decide) (fun c32 => ?_) (fun c32 => ?_)
    · refine lv_iload_n C.1 C.2.1 dX5_rateOf_49 rfl (lv_at hl 0 rfl) ?_
      exact hv_iret (v := ((ar 1) ((ar 5) k).toNatClampNeg)) C hr I (⟨rfl, by unfold rtF rt; first | (simp [c17, c32]; done) | ((repeat' split) <;> first | rfl | contradiction)⟩) dX5_rateOf_50 (Nat.le_of_ble_eq_true rfl) (Nat.le_of_ble_eq_true rfl)
    · refine lv_aload_n C.1 C.2.1 dX5_rateOf_35 rfl (lv_at hl 1 rfl) ?_
      refine hv_get (ci := 6) (Cn := RX5) (T := TX5) (N := 21) (ref := "DividendDeskModel") (v := .ref (ad 2)) C I hM.1 wX5 rfl 2 (by decide) (by decide +kernel) (fun _ h9 => h9) rfl dX5_rateOf_36 ?_
      refine lv_aload_n C.1 C.2.1 dX5_rateOf_39 rfl (lv_at hl 1 rfl) ?_
      refine hv_get (ci := 6) (Cn := RX5) (T := TX5) (N := 21) (ref := "DividendDeskModel") (v := .ref (ad 5)) C I hM.1 wX5 rfl 5 (by decide) (by decide +kernel) (fun _ h9 => h9) rfl dX5_rateOf_40 ?_
      refine lv_iload_n C.1 C.2.1 dX5_rateOf_43 rfl (lv_at hl 2 rfl) ?_
      refine hv_ialdN (n := 20) (f := ar 5) C I (isM_a hM 5 rfl) hk (by decide) dX5_rateOf_44 ?_
      refine hv_iald (n := 6) (f := ar 2) C I (isM_a hM 2 rfl) hL dX5_rateOf_45 ?_
      refine lv_goto (tgt := 50) C.1 C.2.1 dX5_rateOf_46 (by decide) ?_
      exact hv_iret (v := ((ar 2) ((ar 5) k).toNatClampNeg)) C hr I (⟨rfl, by unfold rtF rt; first | (simp [c17, c32]; done) | ((repeat' split) <;> first | rfl | contradiction)⟩) dX5_rateOf_50 (Nat.le_of_ble_eq_true rfl) (Nat.le_of_ble_eq_true rfl)

theorem c_X5_rateOf_p (l : Launch) (G : hv_G) (h : hv) (sz : Nat) {o : Nat} {ad : Nat → Nat} {dy : Int32} {n d : Nat} {rf : Int64} {th : Int32} {ar : Nat → Nat → Int32} (hM : isM G h o ad dy n d rf th ar) (p0 : Int32) (hp0 : vp_in p0 20) (hL : vp_in (ar 5 p0.toNatClampNeg) 6) : hv_Mi l yX5_rateOf wsX5_rateOf 1 30 0 0 G h sz [.ref o, .int p0] (fun r u => u = h ∧ r = rtF dy (ar 1) (ar 2) (ar 4) (ar 5) (ar 6) (ar 8) p0.toNatClampNeg) := by
  obtain ⟨k, hk, rfl⟩ := vp_in_of hp0 (by decide)
  simp only [nI_clamp (show k < 2 ^ 31 by omega)] at *
  exact c_X5_rateOf l G h sz hM k hk hL

set_option maxHeartbeats 4000000 in
set_option maxRecDepth 100000 in
theorem c_X5_shares (l : Launch) (G : hv_G) (h : hv) (sz : Nat) {o : Nat} {ad : Nat → Nat} {dy : Int32} {n d : Nat} {rf : Int64} {th : Int32} {ar : Nat → Nat → Int32} (hM : isM G h o ad dy n d rf th ar) (p0 : Int32) (hn : n ≤ 20) : hv_Mi l yX5_shares wsX5_shares 3 90 0 0 G h sz [.ref o, .int p0] (fun r u => (fAk p0 n = 0 → (r = ar 6 p0.toNatClampNeg ∧ isM G u o ad dy n d rf 0 ar)) ∧ (¬ fAk p0 n = 0 → isM G u o ad dy n d rf (fAk p0 n) ar)) := by
  have wX5 : ∀ w ∈ wsX50, w ∈ wsX5_shares := by decide +kernel
  refine hv_enter (y := yX5_shares) (avs := [.ref o, .int p0]) (maxL := 2) (Qf := fun sz => va_Qi (fun r u => (fAk p0 n = 0 → (r = ar 6 p0.toNatClampNeg ∧ isM G u o ad dy n d rf 0 ar)) ∧ (¬ fAk p0 n = 0 → isM G u o ad dy n d rf (fAk p0 n) ar)) (hv_Bq G h sz) (hv_A h sz)) (by decide) rfl rfl (Nat.le_of_ble_eq_true rfl) ?_
  intro p e s m below meth c hr hnm C I ls hl
  have hl : lv_has ls 2 [(0, .ref o), (1, .int p0)] := hl
  refine lv_aload_n C.1 C.2.1 dX5_shares_0 rfl (lv_at hl 0 rfl) ?_
  refine lv_iload_n C.1 C.2.1 dX5_shares_1 rfl (lv_at hl 1 rfl) ?_
  refine hv_ki I (va_runV (As := [.int p0]) (rest := []) C.fix (c_X5_isAsked l G h _ hM p0) (cwV 1 C.2.2.2.2.1 gX5_shares_X5_isAsked rfl rfl rfl (by decide +kernel) ⟨Nat.le_of_ble_eq_true rfl, Nat.le_of_ble_eq_true rfl⟩) (hv_preV C I hM.1 (r := (RX5, TX5, 21)) rfl) rfl rfl hl.1 rfl (lv_room (Nat.le_of_ble_eq_true rfl)) dX5_shares_2 ⟨Nat.le_of_ble_eq_true rfl, Nat.le_of_ble_eq_true rfl⟩) (fun ru_1 u_1 H locs pu_1 I => ?_)
  obtain ⟨e1, hM⟩ := pu_1; have e1 := e1.symm; subst e1
  refine lv_if_eq (tgt := 17) C.1 C.2.1 dX5_shares_5 (by decide) (fun c5 => ?_) (fun c5 => ?_)
  · have eF := cz_yes c5
    refine lv_iconst (v := 0) C.1 C.2.1 dX5_shares_17 (by decide) ?_
    exact hv_iret (v := 0) C hr I (⟨fun z => absurd z eF, fun _ => hM⟩) dX5_shares_18 (Nat.le_of_ble_eq_true rfl) (Nat.le_of_ble_eq_true rfl)
  · have eF : fAk p0 n = 0 := cz_no c5
    have hx := fAk_0 eF
    rw [eF] at hM
    refine lv_aload_n C.1 C.2.1 dX5_shares_8 rfl (lv_at hl 0 rfl) ?_
    refine hv_get (ci := 6) (Cn := RX5) (T := TX5) (N := 21) (ref := "DividendDeskModel") (v := .ref (ad 6)) C I hM.1 wX5 rfl 6 (by decide) (by decide +kernel) (fun _ h9 => h9) rfl dX5_shares_9 ?_
    refine lv_iload_n C.1 C.2.1 dX5_shares_12 rfl (lv_at hl 1 rfl) ?_
    refine hv_iald (n := 20) (f := ar 6) C I (isM_a hM 6 rfl) (iwh_vp 20 hn (by decide) hx) dX5_shares_13 ?_
    refine lv_goto (tgt := 18) C.1 C.2.1 dX5_shares_14 (by decide) ?_
    exact hv_iret (v := ((ar 6) p0.toNatClampNeg)) C hr I (⟨fun _ => ⟨rfl, hM⟩, fun z => absurd eF z⟩) dX5_shares_18 (Nat.le_of_ble_eq_true rfl) (Nat.le_of_ble_eq_true rfl)

set_option maxHeartbeats 4000000 in
set_option maxRecDepth 100000 in
theorem c_X5_isValid (l : Launch) (G : hv_G) (h : hv) (sz : Nat) {o : Nat} {ad : Nat → Nat} {dy : Int32} {n d : Nat} {rf : Int64} {th : Int32} {ar : Nat → Nat → Int32} (hM : isM G h o ad dy n d rf th ar) (p0 : Int32) (hn : n ≤ 20) : hv_Mi l yX5_isValid wsX5_isValid 3 90 0 0 G h sz [.ref o, .int p0] (fun r u => (fAk p0 n = 0 → (r = hf dy (ar 7 p0.toNatClampNeg) ∧ isM G u o ad dy n d rf 0 ar)) ∧ (¬ fAk p0 n = 0 → isM G u o ad dy n d rf (fAk p0 n) ar)) := by
  refine hv_enter (y := yX5_isValid) (avs := [.ref o, .int p0]) (maxL := 2) (Qf := fun sz => va_Qi (fun r u => (fAk p0 n = 0 → (r = hf dy (ar 7 p0.toNatClampNeg) ∧ isM G u o ad dy n d rf 0 ar)) ∧ (¬ fAk p0 n = 0 → isM G u o ad dy n d rf (fAk p0 n) ar)) (hv_Bq G h sz) (hv_A h sz)) (by decide) rfl rfl (Nat.le_of_ble_eq_true rfl) ?_
  intro p e s m below meth c hr hnm C I ls hl
  have hl : lv_has ls 2 [(0, .ref o), (1, .int p0)] := hl
  refine lv_aload_n C.1 C.2.1 dX5_isValid_0 rfl (lv_at hl 0 rfl) ?_
  refine lv_iload_n C.1 C.2.1 dX5_isValid_1 rfl (lv_at hl 1 rfl) ?_
  refine hv_ki I (va_runV (As := [.int p0]) (rest := []) C.fix (c_X5_isAsked l G h _ hM p0) (cwV 1 C.2.2.2.2.1 gX5_isValid_X5_isAsked rfl rfl rfl (by decide +kernel) ⟨Nat.le_of_ble_eq_true rfl, Nat.le_of_ble_eq_true rfl⟩) (hv_preV C I hM.1 (r := (RX5, TX5, 21)) rfl) rfl rfl hl.1 rfl (lv_room (Nat.le_of_ble_eq_true rfl)) dX5_isValid_2 ⟨Nat.le_of_ble_eq_true rfl, Nat.le_of_ble_eq_true rfl⟩) (fun ru_1 u_1 H locs pu_1 I => ?_)
  obtain ⟨e1, hM⟩ := pu_1; have e1 := e1.symm; subst e1
  refine lv_if_eq (tgt := 20) C.1 C.2.1 dX5_isValid_5 (by decide) (fun c5 => ?_) (fun c5 => ?_)
  · have eF := cz_yes c5
    refine lv_iconst (v := 0) C.1 C.2.1 dX5_isValid_20 (by decide) ?_
    exact hv_zret (v := 0) C hr I rfl (⟨fun z => absurd z eF, fun _ => hM⟩) dX5_isValid_21 (Nat.le_of_ble_eq_true rfl) (Nat.le_of_ble_eq_true rfl)
  · have eF : fAk p0 n = 0 := cz_no c5
    have hx := fAk_0 eF
    rw [eF] at hM
    refine lv_aload_n C.1 C.2.1 dX5_isValid_8 rfl (lv_at hl 0 rfl) ?_
    refine lv_iload_n C.1 C.2.1 dX5_isValid_9 rfl (lv_at hl 1 rfl) ?_
    refine hv_ki I (va_runV (As := [.int p0]) (rest := []) C.fix (c_X5_hasForm_p l G u_1 _ hM p0 (iwh_vp 20 hn (by decide) hx)) (cwV 1 C.2.2.2.2.1 gX5_isValid_X5_hasForm rfl rfl rfl (by decide +kernel) ⟨Nat.le_of_ble_eq_true rfl, Nat.le_of_ble_eq_true rfl⟩) (hv_preV C I hM.1 (r := (RX5, TX5, 21)) rfl) rfl rfl hl.1 rfl (lv_room (Nat.le_of_ble_eq_true rfl)) dX5_isValid_10 ⟨Nat.le_of_ble_eq_true rfl, Nat.le_of_ble_eq_true rfl⟩) (fun ru_2 u_2 H locs pu_2 I => ?_)
    obtain ⟨e1, e2⟩ := pu_2; have e1 := e1.symm; subst e1; have e2 := e2.symm; subst e2
    refine lv_if_eq (tgt := 20) C.1 C.2.1 dX5_isValid_13 (by decide) (fun c13 => ?_) (fun c13 => ?_)
    · refine lv_iconst (v := 0) C.1 C.2.1 dX5_isValid_20 (by decide) ?_
      exact hv_zret (v := 0) C hr I rfl (⟨fun _ => ⟨c13.symm, hM⟩, fun z => absurd eF z⟩) dX5_isValid_21 (Nat.le_of_ble_eq_true rfl) (Nat.le_of_ble_eq_true rfl)
    · refine lv_iconst (v := 1) C.1 C.2.1 dX5_isValid_16 (by decide) ?_
      refine lv_goto (tgt := 21) C.1 C.2.1 dX5_isValid_17 (by decide) ?_
      exact hv_zret (v := 1) C hr I rfl (⟨fun _ => ⟨hf01n c13, hM⟩, fun z => absurd eF z⟩) dX5_isValid_21 (Nat.le_of_ble_eq_true rfl) (Nat.le_of_ble_eq_true rfl)

set_option maxHeartbeats 4000000 in
set_option maxRecDepth 100000 in
theorem c_X5_isLarge (l : Launch) (G : hv_G) (h : hv) (sz : Nat) {o : Nat} {ad : Nat → Nat} {dy : Int32} {n d : Nat} {rf : Int64} {th : Int32} {ar : Nat → Nat → Int32} (hM : isM G h o ad dy n d rf th ar) (p0 : Int32) (hn : n ≤ 20) : hv_Mi l yX5_isLarge wsX5_isLarge 3 90 0 0 G h sz [.ref o, .int p0] (fun r u => (fAk p0 n = 0 → (r = hlg (ar 4 p0.toNatClampNeg) (ar 6 p0.toNatClampNeg) (ar 8 p0.toNatClampNeg) dy ∧ isM G u o ad dy n d rf 0 ar)) ∧ (¬ fAk p0 n = 0 → isM G u o ad dy n d rf (fAk p0 n) ar)) := by
  refine hv_enter (y := yX5_isLarge) (avs := [.ref o, .int p0]) (maxL := 2) (Qf := fun sz => va_Qi (fun r u => (fAk p0 n = 0 → (r = hlg (ar 4 p0.toNatClampNeg) (ar 6 p0.toNatClampNeg) (ar 8 p0.toNatClampNeg) dy ∧ isM G u o ad dy n d rf 0 ar)) ∧ (¬ fAk p0 n = 0 → isM G u o ad dy n d rf (fAk p0 n) ar)) (hv_Bq G h sz) (hv_A h sz)) (by decide) rfl rfl (Nat.le_of_ble_eq_true rfl) ?_
  intro p e s m below meth c hr hnm C I ls hl
  have hl : lv_has ls 2 [(0, .ref o), (1, .int p0)] := hl
  refine lv_aload_n C.1 C.2.1 dX5_isLarge_0 rfl (lv_at hl 0 rfl) ?_
  refine lv_iload_n C.1 C.2.1 dX5_isLarge_1 rfl (lv_at hl 1 rfl) ?_
  refine hv_ki I (va_runV (As := [.int p0]) (rest := []) C.fix (c_X5_isAsked l G h _ hM p0) (cwV 1 C.2.2.2.2.1 gX5_isLarge_X5_isAsked rfl rfl rfl (by decide +kernel) ⟨Nat.le_of_ble_eq_true rfl, Nat.le_of_ble_eq_true rfl⟩) (hv_preV C I hM.1 (r := (RX5, TX5, 21)) rfl) rfl rfl hl.1 rfl (lv_room (Nat.le_of_ble_eq_true rfl)) dX5_isLarge_2 ⟨Nat.le_of_ble_eq_true rfl, Nat.le_of_ble_eq_true rfl⟩) (fun ru_1 u_1 H locs pu_1 I => ?_)
  obtain ⟨e1, hM⟩ := pu_1; have e1 := e1.symm; subst e1
  refine lv_if_eq (tgt := 20) C.1 C.2.1 dX5_isLarge_5 (by decide) (fun c5 => ?_) (fun c5 => ?_)
  · have eF := cz_yes c5
    refine lv_iconst (v := 0) C.1 C.2.1 dX5_isLarge_20 (by decide) ?_
    exact hv_zret (v := 0) C hr I rfl (⟨fun z => absurd z eF, fun _ => hM⟩) dX5_isLarge_21 (Nat.le_of_ble_eq_true rfl) (Nat.le_of_ble_eq_true rfl)
  · have eF : fAk p0 n = 0 := cz_no c5
    have hx := fAk_0 eF
    rw [eF] at hM
    refine lv_aload_n C.1 C.2.1 dX5_isLarge_8 rfl (lv_at hl 0 rfl) ?_
    refine lv_iload_n C.1 C.2.1 dX5_isLarge_9 rfl (lv_at hl 1 rfl) ?_
    refine hv_ki I (va_runV (As := [.int p0]) (rest := []) C.fix (c_X5_holdsLarge_p l G u_1 _ hM p0 (iwh_vp 20 hn (by decide) hx)) (cwV 1 C.2.2.2.2.1 gX5_isLarge_X5_holdsLarge rfl rfl rfl (by decide +kernel) ⟨Nat.le_of_ble_eq_true rfl, Nat.le_of_ble_eq_true rfl⟩) (hv_preV C I hM.1 (r := (RX5, TX5, 21)) rfl) rfl rfl hl.1 rfl (lv_room (Nat.le_of_ble_eq_true rfl)) dX5_isLarge_10 ⟨Nat.le_of_ble_eq_true rfl, Nat.le_of_ble_eq_true rfl⟩) (fun ru_2 u_2 H locs pu_2 I => ?_)
    obtain ⟨e1, e2⟩ := pu_2; have e1 := e1.symm; subst e1; have e2 := e2.symm; subst e2
    refine lv_if_eq (tgt := 20) C.1 C.2.1 dX5_isLarge_13 (by decide) (fun c13 => ?_) (fun c13 => ?_)
    · refine lv_iconst (v := 0) C.1 C.2.1 dX5_isLarge_20 (by decide) ?_
      exact hv_zret (v := 0) C hr I rfl (⟨fun _ => ⟨c13.symm, hM⟩, fun z => absurd eF z⟩) dX5_isLarge_21 (Nat.le_of_ble_eq_true rfl) (Nat.le_of_ble_eq_true rfl)
    · refine lv_iconst (v := 1) C.1 C.2.1 dX5_isLarge_16 (by decide) ?_
      refine lv_goto (tgt := 21) C.1 C.2.1 dX5_isLarge_17 (by decide) ?_
      exact hv_zret (v := 1) C hr I rfl (⟨fun _ => ⟨hlg01n c13, hM⟩, fun z => absurd eF z⟩) dX5_isLarge_21 (Nat.le_of_ble_eq_true rfl) (Nat.le_of_ble_eq_true rfl)

set_option maxHeartbeats 4000000 in
set_option maxRecDepth 100000 in
theorem c_X5_treatyRate (l : Launch) (G : hv_G) (h : hv) (sz : Nat) {o : Nat} {ad : Nat → Nat} {dy : Int32} {n d : Nat} {rf : Int64} {th : Int32} {ar : Nat → Nat → Int32} (hM : isM G h o ad dy n d rf th ar) (p0 : Int32) (hn : n ≤ 20) (hld : ∀ j, j < n → ¬ ar 4 j = 2 → vp_in (ar 5 j) 6) : hv_Mi l yX5_treatyRate wsX5_treatyRate 3 90 0 0 G h sz [.ref o, .int p0] (fun r u => (fRt p0 n (ar 4) = 0 → (r = rtF dy (ar 1) (ar 2) (ar 4) (ar 5) (ar 6) (ar 8) p0.toNatClampNeg ∧ isM G u o ad dy n d rf 0 ar)) ∧ (¬ fRt p0 n (ar 4) = 0 → isM G u o ad dy n d rf (fRt p0 n (ar 4)) ar)) := by
  have wX5 : ∀ w ∈ wsX50, w ∈ wsX5_treatyRate := by decide +kernel
  refine hv_enter (y := yX5_treatyRate) (avs := [.ref o, .int p0]) (maxL := 2) (Qf := fun sz => va_Qi (fun r u => (fRt p0 n (ar 4) = 0 → (r = rtF dy (ar 1) (ar 2) (ar 4) (ar 5) (ar 6) (ar 8) p0.toNatClampNeg ∧ isM G u o ad dy n d rf 0 ar)) ∧ (¬ fRt p0 n (ar 4) = 0 → isM G u o ad dy n d rf (fRt p0 n (ar 4)) ar)) (hv_Bq G h sz) (hv_A h sz)) (by decide) rfl rfl (Nat.le_of_ble_eq_true rfl) ?_
  intro p e s m below meth c hr hnm C I ls hl
  have hl : lv_has ls 2 [(0, .ref o), (1, .int p0)] := hl
  refine lv_aload_n C.1 C.2.1 dX5_treatyRate_0 rfl (lv_at hl 0 rfl) ?_
  refine lv_aload_n C.1 C.2.1 dX5_treatyRate_1 rfl (lv_at hl 0 rfl) ?_
  refine lv_iload_n C.1 C.2.1 dX5_treatyRate_2 rfl (lv_at hl 1 rfl) ?_
  refine hv_ki I (va_runV (As := [.int p0]) (rest := [.ref o]) C.fix (c_X5_isHolder l G h _ hM p0) (cwV 1 C.2.2.2.2.1 gX5_treatyRate_X5_isHolder rfl rfl rfl (by decide +kernel) ⟨Nat.le_of_ble_eq_true rfl, Nat.le_of_ble_eq_true rfl⟩) (hv_preV C I hM.1 (r := (RX5, TX5, 21)) rfl) rfl rfl hl.1 rfl (lv_room (Nat.le_of_ble_eq_true rfl)) dX5_treatyRate_3 ⟨Nat.le_of_ble_eq_true rfl, Nat.le_of_ble_eq_true rfl⟩) (fun ru_1 u_1 H locs pu_1 I => ?_)
  obtain ⟨e1, e2⟩ := pu_1; have e1 := e1.symm; subst e1; have e2 := e2.symm; subst e2
  refine lv_if_ne (tgt := 13) C.1 C.2.1 dX5_treatyRate_6 (by decide) (fun c6 => ?_) (fun c6 => ?_)
  · refine lv_aload_n C.1 C.2.1 dX5_treatyRate_13 rfl (lv_at hl 0 rfl) ?_
    refine hv_get (ci := 6) (Cn := RX5) (T := TX5) (N := 21) (ref := "DividendDeskModel") (v := .ref (ad 4)) C I hM.1 wX5 rfl 4 (by decide) (by decide +kernel) (fun _ h9 => h9) rfl dX5_treatyRate_14 ?_
    refine lv_iload_n C.1 C.2.1 dX5_treatyRate_17 rfl (lv_at hl 1 rfl) ?_
    refine hv_iald (n := 20) (f := ar 4) C I (isM_a hM 4 rfl) (iwh_vp 20 hn (by decide) c6) dX5_treatyRate_18 ?_
    refine lv_iconst (v := 2) C.1 C.2.1 dX5_treatyRate_19 (by decide) ?_
    refine lv_icmp_ne (tgt := 27) C.1 C.2.1 dX5_treatyRate_20 (by decide) (fun c20 => ?_) (fun c20 => ?_)
    · refine lv_iconst (v := 0) C.1 C.2.1 dX5_treatyRate_27 (by decide) ?_
      refine hv_ki I (va_runV (As := [.int 0]) (rest := []) C.fix (c_X5_can l G h _ hM 0) (cwV 1 C.2.2.2.2.1 gX5_treatyRate_X5_can rfl rfl rfl (by decide +kernel) ⟨Nat.le_of_ble_eq_true rfl, Nat.le_of_ble_eq_true rfl⟩) (hv_preV C I hM.1 (r := (RX5, TX5, 21)) rfl) rfl rfl hl.1 rfl (lv_room (Nat.le_of_ble_eq_true rfl)) dX5_treatyRate_28 ⟨Nat.le_of_ble_eq_true rfl, Nat.le_of_ble_eq_true rfl⟩) (fun ru_2 u_2 H locs pu_2 I => ?_)
      obtain ⟨e1, hM⟩ := pu_2; have e1 := e1.symm; subst e1
      refine lv_if_eq (tgt := 42) C.1 C.2.1 dX5_treatyRate_31 (by decide) (fun c31 => ?_) (fun c31 => ?_)
      · exact absurd c31 (by decide)
      · refine lv_aload_n C.1 C.2.1 dX5_treatyRate_34 rfl (lv_at hl 0 rfl) ?_
        refine lv_iload_n C.1 C.2.1 dX5_treatyRate_35 rfl (lv_at hl 1 rfl) ?_
        refine hv_ki I (va_runV (As := [.int p0]) (rest := []) C.fix (c_X5_rateOf_p l G u_2 _ hM p0 (iwh_vp 20 hn (by decide) c6) (hld _ (iwh_lt (by omega) c6) c20)) (cwV 1 C.2.2.2.2.1 gX5_treatyRate_X5_rateOf rfl rfl rfl (by decide +kernel) ⟨Nat.le_of_ble_eq_true rfl, Nat.le_of_ble_eq_true rfl⟩) (hv_preV C I hM.1 (r := (RX5, TX5, 21)) rfl) rfl rfl hl.1 rfl (lv_room (Nat.le_of_ble_eq_true rfl)) dX5_treatyRate_36 ⟨Nat.le_of_ble_eq_true rfl, Nat.le_of_ble_eq_true rfl⟩) (fun ru_3 u_3 H locs pu_3 I => ?_)
        obtain ⟨e1, e2⟩ := pu_3; have e1 := e1.symm; subst e1; have e2 := e2.symm; subst e2
        refine lv_goto (tgt := 43) C.1 C.2.1 dX5_treatyRate_39 (by decide) ?_
        exact hv_iret (v := (rtF dy (ar 1) (ar 2) (ar 4) (ar 5) (ar 6) (ar 8) p0.toNatClampNeg)) C hr I (⟨fun _ => ⟨rfl, hM⟩, fun z => absurd (show fRt p0 n (ar 4) = 0 by unfold fRt; first | (simp [c6, c20, c31]; done) | ((repeat' split) <;> first | rfl | contradiction)) z⟩) dX5_treatyRate_43 (Nat.le_of_ble_eq_true rfl) (Nat.le_of_ble_eq_true rfl)
    · refine lv_iconst (v := 2) C.1 C.2.1 dX5_treatyRate_23 (by decide) ?_
      refine lv_goto (tgt := 28) C.1 C.2.1 dX5_treatyRate_24 (by decide) ?_
      refine hv_ki I (va_runV (As := [.int 2]) (rest := []) C.fix (c_X5_can l G h _ hM 2) (cwV 1 C.2.2.2.2.1 gX5_treatyRate_X5_can rfl rfl rfl (by decide +kernel) ⟨Nat.le_of_ble_eq_true rfl, Nat.le_of_ble_eq_true rfl⟩) (hv_preV C I hM.1 (r := (RX5, TX5, 21)) rfl) rfl rfl hl.1 rfl (lv_room (Nat.le_of_ble_eq_true rfl)) dX5_treatyRate_28 ⟨Nat.le_of_ble_eq_true rfl, Nat.le_of_ble_eq_true rfl⟩) (fun ru_4 u_4 H locs pu_4 I => ?_)
      obtain ⟨e1, hM⟩ := pu_4; have e1 := e1.symm; subst e1
      refine lv_if_eq (tgt := 42) C.1 C.2.1 dX5_treatyRate_31 (by decide) (fun c31 => ?_) (fun c31 => ?_)
      · refine lv_iconst (v := 0) C.1 C.2.1 dX5_treatyRate_42 (by decide) ?_
        exact hv_iret (v := 0) C hr I ((fun eF => ⟨fun z => absurd (eF.symm.trans z) (by decide), fun _ => by rw [eF]; exact hM⟩) (show fRt p0 n (ar 4) = 2 by unfold fRt; first | (simp [c6, c20, c31]; done) | ((repeat' split) <;> first | rfl | contradiction))) dX5_treatyRate_43 (Nat.le_of_ble_eq_true rfl) (Nat.le_of_ble_eq_true rfl)
      · exact absurd (by decide) c31
  · refine lv_iconst (v := 1) C.1 C.2.1 dX5_treatyRate_9 (by decide) ?_
    refine lv_goto (tgt := 28) C.1 C.2.1 dX5_treatyRate_10 (by decide) ?_
    refine hv_ki I (va_runV (As := [.int 1]) (rest := []) C.fix (c_X5_can l G h _ hM 1) (cwV 1 C.2.2.2.2.1 gX5_treatyRate_X5_can rfl rfl rfl (by decide +kernel) ⟨Nat.le_of_ble_eq_true rfl, Nat.le_of_ble_eq_true rfl⟩) (hv_preV C I hM.1 (r := (RX5, TX5, 21)) rfl) rfl rfl hl.1 rfl (lv_room (Nat.le_of_ble_eq_true rfl)) dX5_treatyRate_28 ⟨Nat.le_of_ble_eq_true rfl, Nat.le_of_ble_eq_true rfl⟩) (fun ru_5 u_5 H locs pu_5 I => ?_)
    obtain ⟨e1, hM⟩ := pu_5; have e1 := e1.symm; subst e1
    refine lv_if_eq (tgt := 42) C.1 C.2.1 dX5_treatyRate_31 (by decide) (fun c31 => ?_) (fun c31 => ?_)
    · refine lv_iconst (v := 0) C.1 C.2.1 dX5_treatyRate_42 (by decide) ?_
      exact hv_iret (v := 0) C hr I ((fun eF => ⟨fun z => absurd (eF.symm.trans z) (by decide), fun _ => by rw [eF]; exact hM⟩) (show fRt p0 n (ar 4) = 1 by unfold fRt; first | (simp [c6, c31]; done) | ((repeat' split) <;> first | rfl | contradiction))) dX5_treatyRate_43 (Nat.le_of_ble_eq_true rfl) (Nat.le_of_ble_eq_true rfl)
    · exact absurd (by decide) c31
