/-! ===== the desk: what was paid, refunds ===== -/
def fRd (a b ds : Int32) (n d : Nat) (gr po : Nat → Int32) (dy : Int32) : Int32 := if iw a 0 (nI d - 1) = 0 then 1 else if iw b 0 (nI n - 1) = 0 then 1 else if ¬ ovF (gr (20 * a.toNatClampNeg + b.toNatClampNeg)) (po a.toNatClampNeg) dy ds = 0 then 2 else 0
theorem fRd_1 {a b ds : Int32} {n d : Nat} {gr po : Nat → Int32} {dy : Int32} (h : ¬ fAa a b n d = 0) : fRd a b ds n d gr po dy = 1 := by
  unfold fAa at h
  unfold fRd
  by_cases h1 : iw a 0 (nI d - 1) = 0
  · rw [if_pos h1]
  · by_cases h2 : iw b 0 (nI n - 1) = 0
    · rw [if_neg h1, if_pos h2]
    · exact absurd (by rw [if_neg h1, if_neg h2]) h
theorem fAa_1 {a b : Int32} {n d : Nat} (h : ¬ fAa a b n d = 0) : fAa a b n d = 1 := by
  unfold fAa at *
  by_cases h1 : iw a 0 (nI d - 1) = 0
  · rw [if_pos h1]
  · by_cases h2 : iw b 0 (nI n - 1) = 0
    · rw [if_neg h1, if_pos h2]
    · exact absurd (by rw [if_neg h1, if_neg h2]) h
theorem fCl_eq (a b : Int32) (n d : Nat) (gr po vt : Nat → Int32) (dy : Int32) : fCl a b n d gr po vt dy = if fRd a b 1080 n d gr po dy = 0 then (if hf dy (vt b.toNatClampNeg) = 0 then 2 else 0) else fRd a b 1080 n d gr po dy := by
  unfold fCl fRd
  by_cases h1 : iw a 0 (nI d - 1) = 0
  · simp [h1]
  · by_cases h2 : iw b 0 (nI n - 1) = 0
    · simp [h1, h2]
    · by_cases h3 : ovF (gr (20 * a.toNatClampNeg + b.toNatClampNeg)) (po a.toNatClampNeg) dy 1080 = 0
      · simp [h1, h2, h3]
      · simp [h1, h2, h3]
theorem fCl_n {a b : Int32} {n d : Nat} {gr po vt : Nat → Int32} {dy : Int32} {k : Int32} (hk : ¬ k = 0) (h : fRd a b 1080 n d gr po dy = k) : fCl a b n d gr po vt dy = k := by
  rw [fCl_eq, h, if_neg hk]
set_option maxHeartbeats 4000000 in
set_option maxRecDepth 100000 in
theorem c_X0_heldOfAll (l : Launch) (G : hv_G) (h : hv) (sz : Nat) {ad : Nat → Nat → Nat} {n d dl : Nat} {dy : Int32} {rf : Int64} {ar : Nat → Nat → Int32} {fm : Nat → Int32} {po : Nat → List (Int32 × Int32 × Int32)} (hD : isD G h ad n d dl dy rf ar fm po) (b : Nat) (hb : b < d) : hv_Ml l yX0_heldOfAll wsX0_heldOfAll 0 0 0 0 G h sz [.ref (ad 6 b)] (fun r u => u = h ∧ r = hrs (ar 12) (ar 13) b 20) := by
  have wX0 : ∀ w ∈ wsX00, w ∈ wsX0_heldOfAll := by decide +kernel
  have wX2 : ∀ w ∈ wsX20, w ∈ wsX0_heldOfAll := by decide +kernel
  refine hv_enter (y := yX0_heldOfAll) (avs := [.ref (ad 6 b)]) (maxL := 5) (Qf := fun sz => va_Ql (fun r u => u = h ∧ r = hrs (ar 12) (ar 13) b 20) (hv_Bq G h sz) (hv_A h sz)) (by decide) rfl rfl (Nat.le_of_ble_eq_true rfl) ?_
  intro p e s m below meth c hr hnm C I ls hl
  have hl : lv_has ls 5 [(0, .ref (ad 6 b))] := hl
  refine lv_lconst (v := 0) C.1 C.2.1 dX0_heldOfAll_0 (by decide) ?_
  refine lv_lstore_n (lv' := [(1, .long 0), (0, .ref (ad 6 b))]) C.1 C.2.1 dX0_heldOfAll_1 rfl hl (by decide) rfl (fun ls hl => ?_)
  refine lv_iconst (v := 0) C.1 C.2.1 dX0_heldOfAll_2 (by decide) ?_
  refine lv_istore_n (lv' := [(3, .int 0), (1, .long 0), (0, .ref (ad 6 b))]) C.1 C.2.1 dX0_heldOfAll_3 rfl hl (by decide) rfl (fun ls hl => ?_)
  have loop : ∀ (k9 i : Nat) , i ≤ 20 → 20 + 1 ≤ i + k9 → ∀ (H : Heap) (locs : List Loc), hv_I G h s h H locs → ∀ ls : Array Slot, lv_has ls 5 [(3, .int (nI i)), (1, .long (hrs (ar 12) (ar 13) b i)), (0, .ref (ad 6 b))] → W p l e (hv_rm 0 0 0 0) s m (([.ref (ad 6 b)] : List Value).toArray) below meth c H locs 0 0 (MQ below (va_Ql (fun r u => u = h ∧ r = hrs (ar 12) (ar 13) b 20) (hv_Bq G h s.heap.size) (hv_A h s.heap.size)) (([.ref (ad 6 b)] : List Value).toArray) s 0 0 (hv_A h s.heap.size)) (F0 m 4 ls []) := by
    intro k9
    induction k9 with
    | zero => intro i hi hin; exact absurd hin (by omega)
    | succ k9 ih =>
      intro i hi hin H locs I ls hl
      refine lv_iload_n C.1 C.2.1 dX0_heldOfAll_4 rfl (lv_at hl 0 rfl) ?_
      refine lv_aload_n C.1 C.2.1 dX0_heldOfAll_5 rfl (lv_at hl 2 rfl) ?_
      refine hv_get (ci := 1) (Cn := RX0) (T := TX0) (N := 3) (ref := "DividendDesk$Dividend") (v := .ref (ad 7 b)) C I (isD_6 hD hb) wX0 rfl 2 (by decide) (by decide +kernel) (fun _ h9 => h9) rfl dX0_heldOfAll_6 ?_
      refine hv_alen (v := 20) C I (isD_7 hD hb) 2 rfl rfl dX0_heldOfAll_9 ?_
      refine lv_icmp_ge (tgt := 41) C.1 C.2.1 dX0_heldOfAll_10 (by decide) (fun c10 => ?_) (fun c10 => ?_)
      · have hi10 : i = 20 := Nat.le_antisymm hi (hv_leN (n := 20) (by decide) (by omega) c10)
        refine lv_lload_n C.1 C.2.1 dX0_heldOfAll_41 rfl (lv_at hl 1 rfl) ?_
        exact hv_lret (v := (hrs (ar 12) (ar 13) b i)) C hr I (⟨rfl, by rw [hi10]⟩) dX0_heldOfAll_42 (Nat.le_of_ble_eq_true rfl) (Nat.le_of_ble_eq_true rfl)
      · have hi10 : i < 20 := hv_ltN (n := 20) (by decide) (by omega) c10
        refine lv_aload_n C.1 C.2.1 dX0_heldOfAll_13 rfl (lv_at hl 2 rfl) ?_
        refine hv_get (ci := 1) (Cn := RX0) (T := TX0) (N := 3) (ref := "DividendDesk$Dividend") (v := .ref (ad 7 b)) C I (isD_6 hD hb) wX0 rfl 2 (by decide) (by decide +kernel) (fun _ h9 => h9) rfl dX0_heldOfAll_14 ?_
        refine lv_iload_n C.1 C.2.1 dX0_heldOfAll_17 rfl (lv_at hl 0 rfl) ?_
        refine hv_paldN C I (isD_7 hD hb) hi10 (by decide) dX0_heldOfAll_18 ?_
        by_cases hg : ar 12 (20 * b + i) = 0
        · refine W.eq (g2 := F0 m 19 ls [.null]) (congrArg (fun q => F0 m 19 ls (va_rf q :: [])) (paysF_none hg)) ?_
          refine lv_astoreN (lv' := [(4, .null), (3, .int (nI i)), (1, .long (hrs (ar 12) (ar 13) b i)), (0, .ref (ad 6 b))]) C.1 C.2.1 dX0_heldOfAll_19 hl (by decide) rfl (fun ls hl => ?_)
          refine lv_aloadN C.1 C.2.1 dX0_heldOfAll_21 (lv_at hl 0 rfl) ?_
          refine lv_ifnullN (tgt := 35) C.1 C.2.1 dX0_heldOfAll_23 (by decide) ?_
          refine lv_iinc (v := nI (i + 1)) (lv' := [(3, .int (nI (i + 1))), (4, .null), (1, .long (hrs (ar 12) (ar 13) b i)), (0, .ref (ad 6 b))]) C.1 C.2.1 dX0_heldOfAll_35 hl (k := 1) rfl (nI_1 i) (by decide) rfl (fun ls hl => ?_)
          refine lv_goto (tgt := 4) C.1 C.2.1 dX0_heldOfAll_38 (by decide) ?_
          exact ih (i + 1) (by omega) (by omega)  _ _ I ls (by rw [show hrs (ar 12) (ar 13) b (i + 1) = hrs (ar 12) (ar 13) b i from if_pos hg]; exact lv_sub hl [0, 2, 3] rfl)
        · refine W.eq (g2 := F0 m 19 ls [.ref (ad 8 (20 * b + i))]) (congrArg (fun q => F0 m 19 ls (va_rf q :: [])) (paysF_some hi10 hg)) ?_
          have hm : pmL d (ar 12) (20 * b + i) := ⟨by omega, hg⟩
          refine lv_astore (lv' := [(4, .ref (ad 8 (20 * b + i))), (3, .int (nI i)), (1, .long (hrs (ar 12) (ar 13) b i)), (0, .ref (ad 6 b))]) C.1 C.2.1 dX0_heldOfAll_19 hl (by decide) rfl (fun ls hl => ?_)
          refine lv_aload C.1 C.2.1 dX0_heldOfAll_21 (lv_at hl 0 rfl) ?_
          refine lv_ifnull C.1 C.2.1 dX0_heldOfAll_23 ?_
          refine lv_lload_n C.1 C.2.1 dX0_heldOfAll_26 rfl (lv_at hl 2 rfl) ?_
          refine lv_aload C.1 C.2.1 dX0_heldOfAll_27 (lv_at hl 0 rfl) ?_
          refine hv_getN (ci := 3) (Cn := RX2) (T := TX2) (N := 3) (ref := "DividendDesk$Payment") (host := "DividendDesk") (v := .int ((ar 13) (20 * b + i))) C I (isD_8 hD hm) wX2 rfl 2 (by decide) (by decide +kernel) (fun _ h9 => h9) rfl dX0_heldOfAll_29 ?_
          refine lv_i2l C.1 C.2.1 dX0_heldOfAll_32 rfl ?_
          refine lv_ladd C.1 C.2.1 dX0_heldOfAll_33 ?_
          refine lv_topl (fun z_1 ez_1 => ?_)
          have ez_1 : z_1 = hrs (ar 12) (ar 13) b (i + 1) := by rw [ez_1]; exact (if_neg hg).symm
          subst ez_1
          refine lv_lstore_n (lv' := [(1, .long (hrs (ar 12) (ar 13) b (i + 1))), (4, .ref (ad 8 (20 * b + i))), (3, .int (nI i)), (0, .ref (ad 6 b))]) C.1 C.2.1 dX0_heldOfAll_34 rfl hl (by decide) rfl (fun ls hl => ?_)
          refine lv_iinc (v := nI (i + 1)) (lv' := [(3, .int (nI (i + 1))), (1, .long (hrs (ar 12) (ar 13) b (i + 1))), (4, .ref (ad 8 (20 * b + i))), (0, .ref (ad 6 b))]) C.1 C.2.1 dX0_heldOfAll_35 hl (k := 2) rfl (nI_1 i) (by decide) rfl (fun ls hl => ?_)
          refine lv_goto (tgt := 4) C.1 C.2.1 dX0_heldOfAll_38 (by decide) ?_
          exact ih (i + 1) (by omega) (by omega)  _ _ I ls (lv_sub hl [0, 1, 3] rfl)
  exact loop (20 + 1) 0 (Nat.zero_le _) (by omega) _ _ I ls (lv_sub hl [0, 1, 2] rfl)

set_option maxHeartbeats 4000000 in
set_option maxRecDepth 100000 in
theorem c_X4_heldInAll (l : Launch) (G : hv_G) (h : hv) (sz : Nat) {ad : Nat → Nat → Nat} {n d dl : Nat} {dy : Int32} {rf : Int64} {ar : Nat → Nat → Int32} {fm : Nat → Int32} {po : Nat → List (Int32 × Int32 × Int32)} (hD : isD G h ad n d dl dy rf ar fm po) (hdl : dl ≤ d) (hd : d ≤ 40) : hv_Ml l yX4_heldInAll wsX4_heldInAll 3 100 0 0 G h sz [.ref (ad 0 0)] (fun r u => u = h ∧ r = hrA (ar 12) (ar 13) dl) := by
  have wX4 : ∀ w ∈ wsX40, w ∈ wsX4_heldInAll := by decide +kernel
  refine hv_enter (y := yX4_heldInAll) (avs := [.ref (ad 0 0)]) (maxL := 4) (Qf := fun sz => va_Ql (fun r u => u = h ∧ r = hrA (ar 12) (ar 13) dl) (hv_Bq G h sz) (hv_A h sz)) (by decide) rfl rfl (Nat.le_of_ble_eq_true rfl) ?_
  intro p e s m below meth c hr hnm C I ls hl
  have hl : lv_has ls 4 [(0, .ref (ad 0 0))] := hl
  refine lv_lconst (v := 0) C.1 C.2.1 dX4_heldInAll_0 (by decide) ?_
  refine lv_lstore_n (lv' := [(1, .long 0), (0, .ref (ad 0 0))]) C.1 C.2.1 dX4_heldInAll_1 rfl hl (by decide) rfl (fun ls hl => ?_)
  refine lv_iconst (v := 0) C.1 C.2.1 dX4_heldInAll_2 (by decide) ?_
  refine lv_istore_n (lv' := [(3, .int 0), (1, .long 0), (0, .ref (ad 0 0))]) C.1 C.2.1 dX4_heldInAll_3 rfl hl (by decide) rfl (fun ls hl => ?_)
  have loop : ∀ (k9 i : Nat) , i ≤ dl → dl + 1 ≤ i + k9 → ∀ (H : Heap) (locs : List Loc), hv_I G h s h H locs → ∀ ls : Array Slot, lv_has ls 4 [(3, .int (nI i)), (1, .long (hrA (ar 12) (ar 13) i)), (0, .ref (ad 0 0))] → W p l e (hv_rm 3 0 0 100) s m (([.ref (ad 0 0)] : List Value).toArray) below meth c H locs 0 0 (MQ below (va_Ql (fun r u => u = h ∧ r = hrA (ar 12) (ar 13) dl) (hv_Bq G h s.heap.size) (hv_A h s.heap.size)) (([.ref (ad 0 0)] : List Value).toArray) s 0 0 (hv_A h s.heap.size)) (F0 m 4 ls []) := by
    intro k9
    induction k9 with
    | zero => intro i hi hin; exact absurd hin (by omega)
    | succ k9 ih =>
      intro i hi hin H locs I ls hl
      refine lv_iload_n C.1 C.2.1 dX4_heldInAll_4 rfl (lv_at hl 0 rfl) ?_
      refine lv_aload_n C.1 C.2.1 dX4_heldInAll_5 rfl (lv_at hl 2 rfl) ?_
      refine hv_get (ci := 5) (Cn := RX4) (T := TX4) (N := 6) (ref := "DividendDesk") (v := .ref (ad 2 1)) C I (isD_0 hD) wX4 rfl 3 (by decide) (by decide +kernel) (fun _ h9 => h9) rfl dX4_heldInAll_6 ?_
      refine hv_ki I (va_runV (As := []) (rest := [.int (nI i)]) C.fix (c_L_size l G h _ (isD_21 hD)) (cwV 0 C.2.2.2.2.1 gX4_heldInAll_Jx4a65c_size_8abf5 rfl rfl rfl (by decide +kernel) ⟨Nat.le_of_ble_eq_true rfl, Nat.le_of_ble_eq_true rfl⟩) (hv_preV C I (isD_21 hD) (r := (RJx4a65c, TJx4a65c, 3)) rfl) rfl rfl hl.1 rfl (lv_room (Nat.le_of_ble_eq_true rfl)) dX4_heldInAll_9 ⟨Nat.le_of_ble_eq_true rfl, Nat.le_of_ble_eq_true rfl⟩) (fun ru_1 u_1 H locs pu_1 I => ?_)
      obtain ⟨e1, e2⟩ := pu_1; have e1 := e1.symm; subst e1; have e2 := e2.symm; subst e2
      refine lv_icmp_ge (tgt := 38) C.1 C.2.1 dX4_heldInAll_12 (by decide) (fun c12 => ?_) (fun c12 => ?_)
      · have hi12 : i = dl := Nat.le_antisymm hi (hv_leN (by omega) (by omega) c12)
        refine lv_lload_n C.1 C.2.1 dX4_heldInAll_38 rfl (lv_at hl 1 rfl) ?_
        exact hv_lret (v := (hrA (ar 12) (ar 13) i)) C hr I (⟨rfl, by rw [hi12]⟩) dX4_heldInAll_39 (Nat.le_of_ble_eq_true rfl) (Nat.le_of_ble_eq_true rfl)
      · have hi12 : i < dl := hv_ltN (by omega) (by omega) c12
        have hi2 : i < d := by omega
        refine lv_lload_n C.1 C.2.1 dX4_heldInAll_15 rfl (lv_at hl 1 rfl) ?_
        refine lv_aload_n C.1 C.2.1 dX4_heldInAll_16 rfl (lv_at hl 2 rfl) ?_
        refine hv_get (ci := 5) (Cn := RX4) (T := TX4) (N := 6) (ref := "DividendDesk") (v := .ref (ad 2 1)) C I (isD_0 hD) wX4 rfl 3 (by decide) (by decide +kernel) (fun _ h9 => h9) rfl dX4_heldInAll_17 ?_
        refine lv_iload_n C.1 C.2.1 dX4_heldInAll_20 rfl (lv_at hl 0 rfl) ?_
        refine hv_kq I (va_runV (As := [.int (nI i)]) (rest := [.long (hrA (ar 12) (ar 13) i)]) C.fix (c_L_get l G h _ (isD_21 hD) (isD_31 hD (Nat.ne_zero_of_lt hi12)) hi12 (by omega)) (cwV 1 C.2.2.2.2.1 gX4_heldInAll_Jx4a65c_get_915e3 rfl rfl rfl (by decide +kernel) ⟨Nat.le_of_ble_eq_true rfl, Nat.le_of_ble_eq_true rfl⟩) (hv_preV C I (isD_21 hD) (r := (RJx4a65c, TJx4a65c, 3)) rfl) rfl rfl hl.1 rfl (lv_room (Nat.le_of_ble_eq_true rfl)) dX4_heldInAll_21 ⟨Nat.le_of_ble_eq_true rfl, Nat.le_of_ble_eq_true rfl⟩) (fun ru_2 u_2 H locs pu_2 I => ?_)
        obtain ⟨e1, e2⟩ := pu_2; have e1 := e1.symm; subst e1; have e2 := e2.symm; subst e2
        refine hv_cast C I (isD_6 hD hi2) (r := (RX0, TX0, 3)) rfl (by decide +kernel) dX4_heldInAll_24 ?_
        refine hv_kl I (va_runVN (As := []) (rest := [.long (hrA (ar 12) (ar 13) i)]) C.fix (c_X0_heldOfAll l G h _ hD i hi2) ⟨va_cnB 0 C.2.2.2.2.1 gX4_heldInAll_X0_heldOfAll_n158 rfl rfl rfl (C.nw (w := .methodLinkNest RX4 158 yX0_heldOfAll "DividendDesk") (by decide +kernel)) (C.ts (by decide +kernel)) (by decide +kernel) ⟨Nat.le_of_ble_eq_true rfl, Nat.le_of_ble_eq_true rfl⟩, C.ts (by decide +kernel), C.ts (by decide +kernel)⟩ (hv_preV C I (isD_6 hD hi2) (r := (RX0, TX0, 3)) rfl) rfl rfl hl.1 rfl (lv_room (Nat.le_of_ble_eq_true rfl)) dX4_heldInAll_27 ⟨Nat.le_of_ble_eq_true rfl, Nat.le_of_ble_eq_true rfl⟩) (fun ru_3 u_3 H locs pu_3 I => ?_)
        obtain ⟨e1, e2⟩ := pu_3; have e1 := e1.symm; subst e1; have e2 := e2.symm; subst e2
        refine lv_ladd C.1 C.2.1 dX4_heldInAll_30 ?_
        refine lv_topl (fun z_4 ez_4 => ?_)
        have ez_4 : z_4 = hrA (ar 12) (ar 13) (i + 1) := by rw [ez_4]; rfl
        subst ez_4
        refine lv_lstore_n (lv' := [(1, .long (hrA (ar 12) (ar 13) (i + 1))), (3, .int (nI i)), (0, .ref (ad 0 0))]) C.1 C.2.1 dX4_heldInAll_31 rfl hl (by decide) rfl (fun ls hl => ?_)
        refine lv_iinc (v := nI (i + 1)) (lv' := [(3, .int (nI (i + 1))), (1, .long (hrA (ar 12) (ar 13) (i + 1))), (0, .ref (ad 0 0))]) C.1 C.2.1 dX4_heldInAll_32 hl (k := 1) rfl (nI_1 i) (by decide) rfl (fun ls hl => ?_)
        refine lv_goto (tgt := 4) C.1 C.2.1 dX4_heldInAll_35 (by decide) ?_
        exact ih (i + 1) (by omega) (by omega)  _ _ I ls (lv_sub hl [0, 1, 2] rfl)
  exact loop (dl + 1) 0 (Nat.zero_le _) (by omega) _ _ I ls (lv_sub hl [0, 1, 2] rfl)

set_option maxHeartbeats 4000000 in
set_option maxRecDepth 100000 in
theorem c_X4_dividendAt (l : Launch) (hlt : l.stackTraces = false) (G : hv_G) (h : hv) (sz : Nat) {ad : Nat → Nat → Nat} {n d dl : Nat} {dy : Int32} {rf : Int64} {ar : Nat → Nat → Int32} {fm : Nat → Int32} {po : Nat → List (Int32 × Int32 × Int32)} (hD : isD G h ad n d dl dy rf ar fm po) (p0 : Int32) (hdl : dl ≤ d) (hd : d ≤ 40) : hv_Xq l yX4_dividendAt wsX4_dividendAt 6 150 1 6 G h sz [.ref (ad 0 0), .int p0] (fun r u => u = h ∧ ∃ j, j < dl ∧ p0 = nI j ∧ r = some (ad 6 j)) (fun E u => E = "java/lang/IndexOutOfBoundsException" ∧ u = h ∧ iw p0 0 (nI dl - 1) = 0) := by
  have wX4 : ∀ w ∈ wsX40, w ∈ wsX4_dividendAt := by decide +kernel
  refine hv_enterX (y := yX4_dividendAt) (avs := [.ref (ad 0 0), .int p0]) (maxL := 2) (Qf := fun sz => va_Qq (fun r u => u = h ∧ ∃ j, j < dl ∧ p0 = nI j ∧ r = some (ad 6 j)) (hv_Bq G h sz) (hv_A h sz)) (XC := fun sz => hv_X G h sz (fun E u => E = "java/lang/IndexOutOfBoundsException" ∧ u = h ∧ iw p0 0 (nI dl - 1) = 0)) (by decide) rfl rfl (Nat.le_of_ble_eq_true rfl) ?_
  intro p e s m below meth c hr ht C I ls hl
  have hl : lv_has ls 2 [(0, .ref (ad 0 0)), (1, .int p0)] := hl
  refine lv_iload_n C.1 C.2.1 dX4_dividendAt_0 rfl (lv_at hl 1 rfl) ?_
  refine lv_iconst (v := 0) C.1 C.2.1 dX4_dividendAt_1 (by decide) ?_
  refine lv_aload_n C.1 C.2.1 dX4_dividendAt_2 rfl (lv_at hl 0 rfl) ?_
  refine hv_get (ci := 5) (Cn := RX4) (T := TX4) (N := 6) (ref := "DividendDesk") (v := .ref (ad 2 1)) C I (isD_0 hD) wX4 rfl 3 (by decide) (by decide +kernel) (fun _ h9 => h9) rfl dX4_dividendAt_3 ?_
  refine hv_ki I (va_runV (As := []) (rest := [.int 0, .int p0]) C.fix (c_L_size l G h _ (isD_21 hD)) (cwV 0 C.2.2.2.2.1 gX4_dividendAt_Jx4a65c_size_8abf5 rfl rfl rfl (by decide +kernel) ⟨Nat.le_of_ble_eq_true rfl, Nat.le_of_ble_eq_true rfl⟩) (hv_preV C I (isD_21 hD) (r := (RJx4a65c, TJx4a65c, 3)) rfl) rfl rfl hl.1 rfl (lv_room (Nat.le_of_ble_eq_true rfl)) dX4_dividendAt_6 ⟨Nat.le_of_ble_eq_true rfl, Nat.le_of_ble_eq_true rfl⟩) (fun ru_1 u_1 H locs pu_1 I => ?_)
  obtain ⟨e1, e2⟩ := pu_1; have e1 := e1.symm; subst e1; have e2 := e2.symm; subst e2
  refine lv_iconst (v := 1) C.1 C.2.1 dX4_dividendAt_9 (by decide) ?_
  refine lv_isub C.1 C.2.1 dX4_dividendAt_10 ?_
  refine hv_ki I (va_runS (As := [.int p0, .int 0, .int ((nI dl) - 1)]) (rest := []) C.fix (c_X4_isWithin l G h _ p0 0 ((nI dl) - 1)) (va_cwS 3 C.2.2.2.2.1 gX4_dividendAt_X4_isWithin rfl rfl rfl (by decide +kernel) ⟨Nat.le_of_ble_eq_true rfl, Nat.le_of_ble_eq_true rfl⟩) (hv_preS C I) rfl rfl hl.1 rfl (lv_room (Nat.le_of_ble_eq_true rfl)) dX4_dividendAt_11 ⟨Nat.le_of_ble_eq_true rfl, Nat.le_of_ble_eq_true rfl⟩) (fun ru_2 u_2 H locs pu_2 I => ?_)
  obtain ⟨e1, e2⟩ := pu_2; have e1 := e1.symm; subst e1; have e2 := e2.symm; subst e2
  refine lv_if_ne (tgt := 27) C.1 C.2.1 dX4_dividendAt_14 (by decide) (fun c14 => ?_) (fun c14 => ?_)
  · obtain ⟨j, hj, ej⟩ := iwh_ex (by omega) c14
    have hj2 : j < d := by omega
    refine lv_aload_n C.1 C.2.1 dX4_dividendAt_27 rfl (lv_at hl 0 rfl) ?_
    refine hv_get (ci := 5) (Cn := RX4) (T := TX4) (N := 6) (ref := "DividendDesk") (v := .ref (ad 2 1)) C I (isD_0 hD) wX4 rfl 3 (by decide) (by decide +kernel) (fun _ h9 => h9) rfl dX4_dividendAt_28 ?_
    refine lv_iload_n C.1 C.2.1 dX4_dividendAt_31 rfl (lv_at hl 1 rfl) ?_
    refine lv_topi (fun z_3 ez_3 => ?_)
    have ez_3 : z_3 = nI j := by rw [ez_3]; exact ej
    subst ez_3
    refine hv_kq I (va_runV (As := [.int (nI j)]) (rest := []) C.fix (c_L_get l G h _ (isD_21 hD) (isD_31 hD (Nat.ne_zero_of_lt hj)) hj (by omega)) (cwV 1 C.2.2.2.2.1 gX4_dividendAt_Jx4a65c_get_915e3 rfl rfl rfl (by decide +kernel) ⟨Nat.le_of_ble_eq_true rfl, Nat.le_of_ble_eq_true rfl⟩) (hv_preV C I (isD_21 hD) (r := (RJx4a65c, TJx4a65c, 3)) rfl) rfl rfl hl.1 rfl (lv_room (Nat.le_of_ble_eq_true rfl)) dX4_dividendAt_32 ⟨Nat.le_of_ble_eq_true rfl, Nat.le_of_ble_eq_true rfl⟩) (fun ru_4 u_4 H locs pu_4 I => ?_)
    obtain ⟨e1, e2⟩ := pu_4; have e1 := e1.symm; subst e1; have e2 := e2.symm; subst e2
    refine hv_cast C I (isD_6 hD hj2) (r := (RX0, TX0, 3)) rfl (by decide +kernel) dX4_dividendAt_35 ?_
    exact vx_ret (hv_qret (r := some (ad 6 j)) C hr (Or.inl ⟨_, rfl⟩) I (⟨rfl, j, hj, ej, rfl⟩) dX4_dividendAt_38 (Nat.le_of_ble_eq_true rfl) (Nat.le_of_ble_eq_true rfl))
  · exact hv_throw (cls := "java/lang/IndexOutOfBoundsException") (text := "no such dividend") (names := ["java/lang/RuntimeException", "java/lang/Exception"]) (ik := 182) (is := 187) (ic := 186) C ht I hlt hl.1 (by decide +kernel) (by decide +kernel) (by decide +kernel) (by decide +kernel) (by decide +kernel) (by decide +kernel) (by decide +kernel) (by decide +kernel) dX4_dividendAt_17 dX4_dividendAt_20 dX4_dividendAt_21 dX4_dividendAt_23 dX4_dividendAt_26 (by decide) (by decide) (Nat.le_of_ble_eq_true rfl) (Nat.le_of_ble_eq_true rfl) (⟨rfl, rfl, c14⟩) (Nat.le_of_ble_eq_true rfl) (Nat.le_of_ble_eq_true rfl)

set_option maxHeartbeats 4000000 in
set_option maxRecDepth 100000 in
theorem c_X4_paymentAt (l : Launch) (hlt : l.stackTraces = false) (G : hv_G) (h : hv) (sz : Nat) {ad : Nat → Nat → Nat} {n d dl : Nat} {dy : Int32} {rf : Int64} {ar : Nat → Nat → Int32} {fm : Nat → Int32} {po : Nat → List (Int32 × Int32 × Int32)} (hD : isD G h ad n d dl dy rf ar fm po) (p0 p1 : Int32) (hn : n ≤ 20) (hdl : dl ≤ d) (hd : d ≤ 40) : hv_Xq l yX4_paymentAt wsX4_paymentAt 8 200 2 12 G h sz [.ref (ad 0 0), .int p0, .int p1] (fun r u => u = h ∧ ∃ b j, b < dl ∧ j < n ∧ p0 = nI b ∧ p1 = nI j ∧ r = paysF (ar 12) (ad 8) b j) (fun E u => E = "java/lang/IndexOutOfBoundsException" ∧ u = h ∧ ¬ fAa p0 p1 n dl = 0) := by
  refine hv_enterX (y := yX4_paymentAt) (avs := [.ref (ad 0 0), .int p0, .int p1]) (maxL := 4) (Qf := fun sz => va_Qq (fun r u => u = h ∧ ∃ b j, b < dl ∧ j < n ∧ p0 = nI b ∧ p1 = nI j ∧ r = paysF (ar 12) (ad 8) b j) (hv_Bq G h sz) (hv_A h sz)) (XC := fun sz => hv_X G h sz (fun E u => E = "java/lang/IndexOutOfBoundsException" ∧ u = h ∧ ¬ fAa p0 p1 n dl = 0)) (by decide) rfl rfl (Nat.le_of_ble_eq_true rfl) ?_
  intro p e s m below meth c hr ht C I ls hl
  have hl : lv_has ls 4 [(0, .ref (ad 0 0)), (1, .int p0), (2, .int p1)] := hl
  refine lv_aload_n C.1 C.2.1 dX4_paymentAt_0 rfl (lv_at hl 0 rfl) ?_
  refine lv_iload_n C.1 C.2.1 dX4_paymentAt_1 rfl (lv_at hl 1 rfl) ?_
  refine hv_xkq I (vx_runV (As := [.int p0]) (rest := []) C.fix (c_X4_dividendAt l hlt G h _ hD p0 hdl hd) (cwV 1 C.2.2.2.2.1 gX4_paymentAt_X4_dividendAt rfl rfl rfl (by decide +kernel) ⟨Nat.le_of_ble_eq_true rfl, Nat.le_of_ble_eq_true rfl⟩) (hv_preV C I (isD_0 hD) (r := (RX4, TX4, 6)) rfl) rfl rfl hl.1 rfl (lv_room (Nat.le_of_ble_eq_true rfl)) dX4_paymentAt_2 ⟨Nat.le_of_ble_eq_true rfl, Nat.le_of_ble_eq_true rfl⟩) (fun E ce q9 u H locs hpx I hq9 hv9 hcl9 => hv_xout C ht I hq9 hv9 hcl9 ((by obtain ⟨g1, g2, g3⟩ := hpx; exact ⟨g1, g2, by unfold fAa; simp [g3]⟩)) (Nat.le_of_ble_eq_true rfl) (Nat.le_of_ble_eq_true rfl)) (fun ru_1 u_1 H locs pu_1 I => ?_)
  obtain ⟨e1, b, hb, ej, e2⟩ := pu_1; have e1 := e1.symm; subst e1; have e2 := e2.symm; subst e2; subst ej
  have ib : iw (nI b) 0 (nI dl - 1) = 1 := iwh_nI hb (by omega)
  have kb : (nI b).toNatClampNeg = b := nI_clamp (by omega)
  have hb2 : b < d := by omega
  refine lv_astore_n (lv' := [(3, .ref (ad 6 b)), (0, .ref (ad 0 0)), (1, .int (nI b)), (2, .int p1)]) C.1 C.2.1 dX4_paymentAt_5 rfl hl (by decide) rfl (fun ls hl => ?_)
  refine lv_aload_n C.1 C.2.1 dX4_paymentAt_6 rfl (lv_at hl 1 rfl) ?_
  refine lv_iload_n C.1 C.2.1 dX4_paymentAt_7 rfl (lv_at hl 3 rfl) ?_
  refine hv_ki I (va_runV (As := [.int p1]) (rest := []) C.fix (c_X4_isHolder l G h _ hD p1) (cwV 1 C.2.2.2.2.1 gX4_paymentAt_X4_isHolder rfl rfl rfl (by decide +kernel) ⟨Nat.le_of_ble_eq_true rfl, Nat.le_of_ble_eq_true rfl⟩) (hv_preV C I (isD_0 hD) (r := (RX4, TX4, 6)) rfl) rfl rfl hl.1 rfl (lv_room (Nat.le_of_ble_eq_true rfl)) dX4_paymentAt_8 ⟨Nat.le_of_ble_eq_true rfl, Nat.le_of_ble_eq_true rfl⟩) (fun ru_2 u_2 H locs pu_2 I => ?_)
  obtain ⟨e1, e2⟩ := pu_2; have e1 := e1.symm; subst e1; have e2 := e2.symm; subst e2
  refine lv_if_ne (tgt := 24) C.1 C.2.1 dX4_paymentAt_11 (by decide) (fun c11 => ?_) (fun c11 => ?_)
  · obtain ⟨j, hj, ej⟩ := iwh_ex (by omega) c11
    subst ej
    refine lv_aload_n C.1 C.2.1 dX4_paymentAt_24 rfl (lv_at hl 0 rfl) ?_
    refine lv_iload_n C.1 C.2.1 dX4_paymentAt_25 rfl (lv_at hl 3 rfl) ?_
    refine hv_kq I (va_runVN (As := [.int (nI j)]) (rest := []) C.fix (c_X0_paymentTo l G h _ (isD_6 hD hb2) (isD_7 hD hb2) j (by omega)) ⟨va_cnB 1 C.2.2.2.2.1 gX4_paymentAt_X0_paymentTo_n189 rfl rfl rfl (C.nw (w := .methodLinkNest RX4 189 yX0_paymentTo "DividendDesk") (by decide +kernel)) (C.ts (by decide +kernel)) (by decide +kernel) ⟨Nat.le_of_ble_eq_true rfl, Nat.le_of_ble_eq_true rfl⟩, C.ts (by decide +kernel), C.ts (by decide +kernel)⟩ (hv_preV C I (isD_6 hD hb2) (r := (RX0, TX0, 3)) rfl) rfl rfl hl.1 rfl (lv_room (Nat.le_of_ble_eq_true rfl)) dX4_paymentAt_26 ⟨Nat.le_of_ble_eq_true rfl, Nat.le_of_ble_eq_true rfl⟩) (fun ru_3 u_3 H locs pu_3 I => ?_)
    obtain ⟨e1, e2⟩ := pu_3; have e1 := e1.symm; subst e1; have e2 := e2.symm; subst e2
    exact vx_ret (hv_qret (r := paysF (ar 12) (ad 8) b j) C hr (Or.inl ⟨_, rfl⟩) I (⟨rfl, b, j, hb, hj, rfl, rfl, rfl⟩) dX4_paymentAt_29 (Nat.le_of_ble_eq_true rfl) (Nat.le_of_ble_eq_true rfl))
  · exact hv_throw (cls := "java/lang/IndexOutOfBoundsException") (text := "no such holder") (names := ["java/lang/RuntimeException", "java/lang/Exception"]) (ik := 182) (is := 184) (ic := 186) C ht I hlt hl.1 (by decide +kernel) (by decide +kernel) (by decide +kernel) (by decide +kernel) (by decide +kernel) (by decide +kernel) (by decide +kernel) (by decide +kernel) dX4_paymentAt_14 dX4_paymentAt_17 dX4_paymentAt_18 dX4_paymentAt_20 dX4_paymentAt_23 (by decide) (by decide) (Nat.le_of_ble_eq_true rfl) (Nat.le_of_ble_eq_true rfl) (⟨rfl, rfl, by unfold fAa; simp [ib, c11]⟩) (Nat.le_of_ble_eq_true rfl) (Nat.le_of_ble_eq_true rfl)

set_option maxHeartbeats 4000000 in
set_option maxRecDepth 100000 in
theorem c_X4_gross (l : Launch) (hlt : l.stackTraces = false) (G : hv_G) (h : hv) (sz : Nat) {ad : Nat → Nat → Nat} {n d dl : Nat} {dy : Int32} {rf : Int64} {ar : Nat → Nat → Int32} {fm : Nat → Int32} {po : Nat → List (Int32 × Int32 × Int32)} (hD : isD G h ad n d dl dy rf ar fm po) (p0 p1 : Int32) (hn : n ≤ 20) (hdl : dl ≤ d) (hd : d ≤ 40) (hpo : ∀ m, pmL d (ar 12) m → (po m).length ≤ 32) : hv_Xi l yX4_gross wsX4_gross 10 300 2 12 G h sz [.ref (ad 0 0), .int p0, .int p1] (fun r u => fAa p0 p1 n dl = 0 ∧ u = h ∧ r = ar 12 (20 * p0.toNatClampNeg + p1.toNatClampNeg)) (fun E u => u = h ∧ ((fAa p0 p1 n dl = 1 ∧ E = "java/lang/IndexOutOfBoundsException"))) := by
  have wX2 : ∀ w ∈ wsX20, w ∈ wsX4_gross := by decide +kernel
  refine hv_enterX (y := yX4_gross) (avs := [.ref (ad 0 0), .int p0, .int p1]) (maxL := 4) (Qf := fun sz => va_Qi (fun r u => fAa p0 p1 n dl = 0 ∧ u = h ∧ r = ar 12 (20 * p0.toNatClampNeg + p1.toNatClampNeg)) (hv_Bq G h sz) (hv_A h sz)) (XC := fun sz => hv_X G h sz (fun E u => u = h ∧ ((fAa p0 p1 n dl = 1 ∧ E = "java/lang/IndexOutOfBoundsException")))) (by decide) rfl rfl (Nat.le_of_ble_eq_true rfl) ?_
  intro p e s m below meth c hr ht C I ls hl
  have hl : lv_has ls 4 [(0, .ref (ad 0 0)), (1, .int p0), (2, .int p1)] := hl
  refine lv_aload_n C.1 C.2.1 dX4_gross_0 rfl (lv_at hl 0 rfl) ?_
  refine lv_iload_n C.1 C.2.1 dX4_gross_1 rfl (lv_at hl 1 rfl) ?_
  refine lv_iload_n C.1 C.2.1 dX4_gross_2 rfl (lv_at hl 2 rfl) ?_
  refine hv_xkq I (vx_runV (As := [.int p0, .int p1]) (rest := []) C.fix (c_X4_paymentAt l hlt G h _ hD p0 p1 hn hdl hd) (cwV 2 C.2.2.2.2.1 gX4_gross_X4_paymentAt rfl rfl rfl (by decide +kernel) ⟨Nat.le_of_ble_eq_true rfl, Nat.le_of_ble_eq_true rfl⟩) (hv_preV C I (isD_0 hD) (r := (RX4, TX4, 6)) rfl) rfl rfl hl.1 rfl (lv_room (Nat.le_of_ble_eq_true rfl)) dX4_gross_3 ⟨Nat.le_of_ble_eq_true rfl, Nat.le_of_ble_eq_true rfl⟩) (fun E ce q9 u H locs hpx I hq9 hv9 hcl9 => hv_xout C ht I hq9 hv9 hcl9 ((by obtain ⟨g1, g2, g3⟩ := hpx; exact ⟨g2, fAa_1 g3, g1⟩)) (Nat.le_of_ble_eq_true rfl) (Nat.le_of_ble_eq_true rfl)) (fun ru_1 u_1 H locs pu_1 I => ?_)
  obtain ⟨e1, b, j, hb, hj, eb, ej, e2⟩ := pu_1; have e1 := e1.symm; subst e1; have e2 := e2.symm; subst e2
  subst eb
  subst ej
  have hb2 : b < d := by omega
  have ib : iw (nI b) 0 (nI dl - 1) = 1 := iwh_nI hb (by omega)
  have kb : (nI b).toNatClampNeg = b := nI_clamp (by omega)
  have ij : iw (nI j) 0 (nI n - 1) = 1 := iwh_nI hj (by omega)
  have kj : (nI j).toNatClampNeg = j := nI_clamp (by omega)
  by_cases hg : ar 12 (20 * b + j) = 0
  · refine W.eq (g2 := F0 m 6 ls [.null]) (congrArg (fun q => F0 m 6 ls (va_rf q :: [])) (paysF_none hg)) ?_
    refine lv_astore_nN (lv' := [(3, .null), (0, .ref (ad 0 0)), (1, .int (nI b)), (2, .int (nI j))]) C.1 C.2.1 dX4_gross_6 rfl hl (by decide) rfl (fun ls hl => ?_)
    refine lv_aload_nN C.1 C.2.1 dX4_gross_7 rfl (lv_at hl 0 rfl) ?_
    refine lv_ifnonnullN C.1 C.2.1 dX4_gross_8 ?_
    refine lv_iconst (v := 0) C.1 C.2.1 dX4_gross_11 (by decide) ?_
    refine lv_goto (tgt := 19) C.1 C.2.1 dX4_gross_12 (by decide) ?_
    exact vx_ret (hv_iret (v := 0) C hr I (⟨(by unfold fAa; first | (simp [ib, kb, ij, kj, hg]; done) | ((repeat' split) <;> first | rfl | contradiction)), ⟨rfl, by rw [kb, kj]; exact hg.symm⟩⟩) dX4_gross_19 (Nat.le_of_ble_eq_true rfl) (Nat.le_of_ble_eq_true rfl))
  · refine W.eq (g2 := F0 m 6 ls [.ref (ad 8 (20 * b + j))]) (congrArg (fun q => F0 m 6 ls (va_rf q :: [])) (paysF_some (by omega) hg)) ?_
    have hm : pmL d (ar 12) (20 * b + j) := ⟨by omega, hg⟩
    refine lv_astore_n (lv' := [(3, .ref (ad 8 (20 * b + j))), (0, .ref (ad 0 0)), (1, .int (nI b)), (2, .int (nI j))]) C.1 C.2.1 dX4_gross_6 rfl hl (by decide) rfl (fun ls hl => ?_)
    refine lv_aload_n C.1 C.2.1 dX4_gross_7 rfl (lv_at hl 0 rfl) ?_
    refine lv_ifnonnull (tgt := 15) C.1 C.2.1 dX4_gross_8 (by decide) ?_
    refine lv_aload_n C.1 C.2.1 dX4_gross_15 rfl (lv_at hl 0 rfl) ?_
    refine hv_getN (ci := 3) (Cn := RX2) (T := TX2) (N := 3) (ref := "DividendDesk$Payment") (host := "DividendDesk") (v := .int ((ar 12) (20 * b + j))) C I (isD_8 hD hm) wX2 rfl 0 (by decide) (by decide +kernel) (fun _ h9 => h9) rfl dX4_gross_16 ?_
    exact vx_ret (hv_iret (v := ((ar 12) (20 * b + j))) C hr I (⟨(by unfold fAa; first | (simp [ib, kb, ij, kj, hg]; done) | ((repeat' split) <;> first | rfl | contradiction)), ⟨rfl, by rw [kb, kj]⟩⟩) dX4_gross_19 (Nat.le_of_ble_eq_true rfl) (Nat.le_of_ble_eq_true rfl))

set_option maxHeartbeats 4000000 in
set_option maxRecDepth 100000 in
theorem c_X4_held (l : Launch) (hlt : l.stackTraces = false) (G : hv_G) (h : hv) (sz : Nat) {ad : Nat → Nat → Nat} {n d dl : Nat} {dy : Int32} {rf : Int64} {ar : Nat → Nat → Int32} {fm : Nat → Int32} {po : Nat → List (Int32 × Int32 × Int32)} (hD : isD G h ad n d dl dy rf ar fm po) (p0 p1 : Int32) (hn : n ≤ 20) (hdl : dl ≤ d) (hd : d ≤ 40) (hpo : ∀ m, pmL d (ar 12) m → (po m).length ≤ 32) : hv_Xi l yX4_held wsX4_held 10 300 2 12 G h sz [.ref (ad 0 0), .int p0, .int p1] (fun r u => fAa p0 p1 n dl = 0 ∧ u = h ∧ r = if ar 12 (20 * p0.toNatClampNeg + p1.toNatClampNeg) = 0 then 0 else ar 13 (20 * p0.toNatClampNeg + p1.toNatClampNeg)) (fun E u => u = h ∧ ((fAa p0 p1 n dl = 1 ∧ E = "java/lang/IndexOutOfBoundsException"))) := by
  have wX2 : ∀ w ∈ wsX20, w ∈ wsX4_held := by decide +kernel
  refine hv_enterX (y := yX4_held) (avs := [.ref (ad 0 0), .int p0, .int p1]) (maxL := 4) (Qf := fun sz => va_Qi (fun r u => fAa p0 p1 n dl = 0 ∧ u = h ∧ r = if ar 12 (20 * p0.toNatClampNeg + p1.toNatClampNeg) = 0 then 0 else ar 13 (20 * p0.toNatClampNeg + p1.toNatClampNeg)) (hv_Bq G h sz) (hv_A h sz)) (XC := fun sz => hv_X G h sz (fun E u => u = h ∧ ((fAa p0 p1 n dl = 1 ∧ E = "java/lang/IndexOutOfBoundsException")))) (by decide) rfl rfl (Nat.le_of_ble_eq_true rfl) ?_
  intro p e s m below meth c hr ht C I ls hl
  have hl : lv_has ls 4 [(0, .ref (ad 0 0)), (1, .int p0), (2, .int p1)] := hl
  refine lv_aload_n C.1 C.2.1 dX4_held_0 rfl (lv_at hl 0 rfl) ?_
  refine lv_iload_n C.1 C.2.1 dX4_held_1 rfl (lv_at hl 1 rfl) ?_
  refine lv_iload_n C.1 C.2.1 dX4_held_2 rfl (lv_at hl 2 rfl) ?_
  refine hv_xkq I (vx_runV (As := [.int p0, .int p1]) (rest := []) C.fix (c_X4_paymentAt l hlt G h _ hD p0 p1 hn hdl hd) (cwV 2 C.2.2.2.2.1 gX4_held_X4_paymentAt rfl rfl rfl (by decide +kernel) ⟨Nat.le_of_ble_eq_true rfl, Nat.le_of_ble_eq_true rfl⟩) (hv_preV C I (isD_0 hD) (r := (RX4, TX4, 6)) rfl) rfl rfl hl.1 rfl (lv_room (Nat.le_of_ble_eq_true rfl)) dX4_held_3 ⟨Nat.le_of_ble_eq_true rfl, Nat.le_of_ble_eq_true rfl⟩) (fun E ce q9 u H locs hpx I hq9 hv9 hcl9 => hv_xout C ht I hq9 hv9 hcl9 ((by obtain ⟨g1, g2, g3⟩ := hpx; exact ⟨g2, fAa_1 g3, g1⟩)) (Nat.le_of_ble_eq_true rfl) (Nat.le_of_ble_eq_true rfl)) (fun ru_1 u_1 H locs pu_1 I => ?_)
  obtain ⟨e1, b, j, hb, hj, eb, ej, e2⟩ := pu_1; have e1 := e1.symm; subst e1; have e2 := e2.symm; subst e2
  subst eb
  subst ej
  have hb2 : b < d := by omega
  have ib : iw (nI b) 0 (nI dl - 1) = 1 := iwh_nI hb (by omega)
  have kb : (nI b).toNatClampNeg = b := nI_clamp (by omega)
  have ij : iw (nI j) 0 (nI n - 1) = 1 := iwh_nI hj (by omega)
  have kj : (nI j).toNatClampNeg = j := nI_clamp (by omega)
  by_cases hg : ar 12 (20 * b + j) = 0
  · refine W.eq (g2 := F0 m 6 ls [.null]) (congrArg (fun q => F0 m 6 ls (va_rf q :: [])) (paysF_none hg)) ?_
    refine lv_astore_nN (lv' := [(3, .null), (0, .ref (ad 0 0)), (1, .int (nI b)), (2, .int (nI j))]) C.1 C.2.1 dX4_held_6 rfl hl (by decide) rfl (fun ls hl => ?_)
    refine lv_aload_nN C.1 C.2.1 dX4_held_7 rfl (lv_at hl 0 rfl) ?_
    refine lv_ifnonnullN C.1 C.2.1 dX4_held_8 ?_
    refine lv_iconst (v := 0) C.1 C.2.1 dX4_held_11 (by decide) ?_
    refine lv_goto (tgt := 19) C.1 C.2.1 dX4_held_12 (by decide) ?_
    exact vx_ret (hv_iret (v := 0) C hr I (⟨(by unfold fAa; first | (simp [ib, kb, ij, kj, hg]; done) | ((repeat' split) <;> first | rfl | contradiction)), ⟨rfl, by rw [kb, kj]; exact (if_pos hg).symm⟩⟩) dX4_held_19 (Nat.le_of_ble_eq_true rfl) (Nat.le_of_ble_eq_true rfl))
  · refine W.eq (g2 := F0 m 6 ls [.ref (ad 8 (20 * b + j))]) (congrArg (fun q => F0 m 6 ls (va_rf q :: [])) (paysF_some (by omega) hg)) ?_
    have hm : pmL d (ar 12) (20 * b + j) := ⟨by omega, hg⟩
    refine lv_astore_n (lv' := [(3, .ref (ad 8 (20 * b + j))), (0, .ref (ad 0 0)), (1, .int (nI b)), (2, .int (nI j))]) C.1 C.2.1 dX4_held_6 rfl hl (by decide) rfl (fun ls hl => ?_)
    refine lv_aload_n C.1 C.2.1 dX4_held_7 rfl (lv_at hl 0 rfl) ?_
    refine lv_ifnonnull (tgt := 15) C.1 C.2.1 dX4_held_8 (by decide) ?_
    refine lv_aload_n C.1 C.2.1 dX4_held_15 rfl (lv_at hl 0 rfl) ?_
    refine hv_getN (ci := 3) (Cn := RX2) (T := TX2) (N := 3) (ref := "DividendDesk$Payment") (host := "DividendDesk") (v := .int ((ar 13) (20 * b + j))) C I (isD_8 hD hm) wX2 rfl 2 (by decide) (by decide +kernel) (fun _ h9 => h9) rfl dX4_held_16 ?_
    exact vx_ret (hv_iret (v := ((ar 13) (20 * b + j))) C hr I (⟨(by unfold fAa; first | (simp [ib, kb, ij, kj, hg]; done) | ((repeat' split) <;> first | rfl | contradiction)), ⟨rfl, by rw [kb, kj]; exact (if_neg hg).symm⟩⟩) dX4_held_19 (Nat.le_of_ble_eq_true rfl) (Nat.le_of_ble_eq_true rfl))

set_option maxHeartbeats 4000000 in
set_option maxRecDepth 100000 in
theorem c_X4_due (l : Launch) (hlt : l.stackTraces = false) (G : hv_G) (h : hv) (sz : Nat) {ad : Nat → Nat → Nat} {n d dl : Nat} {dy : Int32} {rf : Int64} {ar : Nat → Nat → Int32} {fm : Nat → Int32} {po : Nat → List (Int32 × Int32 × Int32)} (hD : isD G h ad n d dl dy rf ar fm po) (p0 p1 : Int32) (hn : n ≤ 20) (hdl : dl ≤ d) (hd : d ≤ 40) (hpo : ∀ m, pmL d (ar 12) m → (po m).length ≤ 32) : hv_Xi l yX4_due wsX4_due 10 300 2 12 G h sz [.ref (ad 0 0), .int p0, .int p1] (fun r u => fAa p0 p1 n dl = 0 ∧ u = h ∧ r = if ar 12 (20 * p0.toNatClampNeg + p1.toNatClampNeg) = 0 then 0 else tall (po (20 * p0.toNatClampNeg + p1.toNatClampNeg)) (-1)) (fun E u => u = h ∧ ((fAa p0 p1 n dl = 1 ∧ E = "java/lang/IndexOutOfBoundsException"))) := by
  refine hv_enterX (y := yX4_due) (avs := [.ref (ad 0 0), .int p0, .int p1]) (maxL := 4) (Qf := fun sz => va_Qi (fun r u => fAa p0 p1 n dl = 0 ∧ u = h ∧ r = if ar 12 (20 * p0.toNatClampNeg + p1.toNatClampNeg) = 0 then 0 else tall (po (20 * p0.toNatClampNeg + p1.toNatClampNeg)) (-1)) (hv_Bq G h sz) (hv_A h sz)) (XC := fun sz => hv_X G h sz (fun E u => u = h ∧ ((fAa p0 p1 n dl = 1 ∧ E = "java/lang/IndexOutOfBoundsException")))) (by decide) rfl rfl (Nat.le_of_ble_eq_true rfl) ?_
  intro p e s m below meth c hr ht C I ls hl
  have hl : lv_has ls 4 [(0, .ref (ad 0 0)), (1, .int p0), (2, .int p1)] := hl
  refine lv_aload_n C.1 C.2.1 dX4_due_0 rfl (lv_at hl 0 rfl) ?_
  refine lv_iload_n C.1 C.2.1 dX4_due_1 rfl (lv_at hl 1 rfl) ?_
  refine lv_iload_n C.1 C.2.1 dX4_due_2 rfl (lv_at hl 2 rfl) ?_
  refine hv_xkq I (vx_runV (As := [.int p0, .int p1]) (rest := []) C.fix (c_X4_paymentAt l hlt G h _ hD p0 p1 hn hdl hd) (cwV 2 C.2.2.2.2.1 gX4_due_X4_paymentAt rfl rfl rfl (by decide +kernel) ⟨Nat.le_of_ble_eq_true rfl, Nat.le_of_ble_eq_true rfl⟩) (hv_preV C I (isD_0 hD) (r := (RX4, TX4, 6)) rfl) rfl rfl hl.1 rfl (lv_room (Nat.le_of_ble_eq_true rfl)) dX4_due_3 ⟨Nat.le_of_ble_eq_true rfl, Nat.le_of_ble_eq_true rfl⟩) (fun E ce q9 u H locs hpx I hq9 hv9 hcl9 => hv_xout C ht I hq9 hv9 hcl9 ((by obtain ⟨g1, g2, g3⟩ := hpx; exact ⟨g2, fAa_1 g3, g1⟩)) (Nat.le_of_ble_eq_true rfl) (Nat.le_of_ble_eq_true rfl)) (fun ru_1 u_1 H locs pu_1 I => ?_)
  obtain ⟨e1, b, j, hb, hj, eb, ej, e2⟩ := pu_1; have e1 := e1.symm; subst e1; have e2 := e2.symm; subst e2
  subst eb
  subst ej
  have hb2 : b < d := by omega
  have ib : iw (nI b) 0 (nI dl - 1) = 1 := iwh_nI hb (by omega)
  have kb : (nI b).toNatClampNeg = b := nI_clamp (by omega)
  have ij : iw (nI j) 0 (nI n - 1) = 1 := iwh_nI hj (by omega)
  have kj : (nI j).toNatClampNeg = j := nI_clamp (by omega)
  by_cases hg : ar 12 (20 * b + j) = 0
  · refine W.eq (g2 := F0 m 6 ls [.null]) (congrArg (fun q => F0 m 6 ls (va_rf q :: [])) (paysF_none hg)) ?_
    refine lv_astore_nN (lv' := [(3, .null), (0, .ref (ad 0 0)), (1, .int (nI b)), (2, .int (nI j))]) C.1 C.2.1 dX4_due_6 rfl hl (by decide) rfl (fun ls hl => ?_)
    refine lv_aload_nN C.1 C.2.1 dX4_due_7 rfl (lv_at hl 0 rfl) ?_
    refine lv_ifnonnullN C.1 C.2.1 dX4_due_8 ?_
    refine lv_iconst (v := 0) C.1 C.2.1 dX4_due_11 (by decide) ?_
    refine lv_goto (tgt := 20) C.1 C.2.1 dX4_due_12 (by decide) ?_
    exact vx_ret (hv_iret (v := 0) C hr I (⟨(by unfold fAa; first | (simp [ib, kb, ij, kj, hg]; done) | ((repeat' split) <;> first | rfl | contradiction)), ⟨rfl, by rw [kb, kj]; exact (if_pos hg).symm⟩⟩) dX4_due_20 (Nat.le_of_ble_eq_true rfl) (Nat.le_of_ble_eq_true rfl))
  · refine W.eq (g2 := F0 m 6 ls [.ref (ad 8 (20 * b + j))]) (congrArg (fun q => F0 m 6 ls (va_rf q :: [])) (paysF_some (by omega) hg)) ?_
    have hm : pmL d (ar 12) (20 * b + j) := ⟨by omega, hg⟩
    refine lv_astore_n (lv' := [(3, .ref (ad 8 (20 * b + j))), (0, .ref (ad 0 0)), (1, .int (nI b)), (2, .int (nI j))]) C.1 C.2.1 dX4_due_6 rfl hl (by decide) rfl (fun ls hl => ?_)
    refine lv_aload_n C.1 C.2.1 dX4_due_7 rfl (lv_at hl 0 rfl) ?_
    refine lv_ifnonnull (tgt := 15) C.1 C.2.1 dX4_due_8 (by decide) ?_
    refine lv_aload_n C.1 C.2.1 dX4_due_15 rfl (lv_at hl 0 rfl) ?_
    refine lv_iconst (v := (-1)) C.1 C.2.1 dX4_due_16 (by decide) ?_
    refine hv_ki I (va_runVN (As := [.int (-1)]) (rest := []) C.fix (c_X2_taxWith l G h _ (isD_8 hD hm) (isD_A hD hm) (fun hz => isD_B hD hm hz) (fun k hk => isD_9 hD hm hk (Nat.lt_of_lt_of_le hk (hpo _ hm))) (hpo _ hm) (-1)) ⟨va_cnB 1 C.2.2.2.2.1 gX4_due_X2_taxWith_n155 rfl rfl rfl (C.nw (w := .methodLinkNest RX4 155 yX2_taxWith "DividendDesk") (by decide +kernel)) (C.ts (by decide +kernel)) (by decide +kernel) ⟨Nat.le_of_ble_eq_true rfl, Nat.le_of_ble_eq_true rfl⟩, C.ts (by decide +kernel), C.ts (by decide +kernel)⟩ (hv_preV C I (isD_8 hD hm) (r := (RX2, TX2, 3)) rfl) rfl rfl hl.1 rfl (lv_room (Nat.le_of_ble_eq_true rfl)) dX4_due_17 ⟨Nat.le_of_ble_eq_true rfl, Nat.le_of_ble_eq_true rfl⟩) (fun ru_2 u_2 H locs pu_2 I => ?_)
    obtain ⟨e1, e2⟩ := pu_2; have e1 := e1.symm; subst e1; have e2 := e2.symm; subst e2
    exact vx_ret (hv_iret (v := (tall (po (20 * b + j)) (-1))) C hr I (⟨(by unfold fAa; first | (simp [ib, kb, ij, kj, hg]; done) | ((repeat' split) <;> first | rfl | contradiction)), ⟨rfl, by rw [kb, kj]; exact (if_neg hg).symm⟩⟩) dX4_due_20 (Nat.le_of_ble_eq_true rfl) (Nat.le_of_ble_eq_true rfl))

set_option maxHeartbeats 4000000 in
set_option maxRecDepth 100000 in
theorem c_X4_refundablePayment (l : Launch) (hlt : l.stackTraces = false) (G : hv_G) (h : hv) (sz : Nat) {ad : Nat → Nat → Nat} {n d dl : Nat} {dy : Int32} {rf : Int64} {ar : Nat → Nat → Int32} {fm : Nat → Int32} {po : Nat → List (Int32 × Int32 × Int32)} (hD : isD G h ad n d dl dy rf ar fm po) (p0 p1 p2 : Int32) (hn : n ≤ 20) (hdl : dl ≤ d) (hd : d ≤ 40) : hv_Xq l yX4_refundablePayment wsX4_refundablePayment 10 300 4 24 G h sz [.ref (ad 0 0), .int p0, .int p1, .int p2] (fun r u => fRd p0 p1 p2 n dl (ar 12) (ar 11) dy = 0 ∧ u = h ∧ ∃ b j, b < dl ∧ j < n ∧ p0 = nI b ∧ p1 = nI j ∧ ¬ ar 12 (20 * b + j) = 0 ∧ r = some (ad 8 (20 * b + j))) (fun E u => u = h ∧ ((fRd p0 p1 p2 n dl (ar 12) (ar 11) dy = 1 ∧ E = "java/lang/IndexOutOfBoundsException") ∨ (fRd p0 p1 p2 n dl (ar 12) (ar 11) dy = 2 ∧ E = "java/lang/IllegalStateException"))) := by
  have wX0 : ∀ w ∈ wsX00, w ∈ wsX4_refundablePayment := by decide +kernel
  have wX4 : ∀ w ∈ wsX40, w ∈ wsX4_refundablePayment := by decide +kernel
  refine hv_enterX (y := yX4_refundablePayment) (avs := [.ref (ad 0 0), .int p0, .int p1, .int p2]) (maxL := 5) (Qf := fun sz => va_Qq (fun r u => fRd p0 p1 p2 n dl (ar 12) (ar 11) dy = 0 ∧ u = h ∧ ∃ b j, b < dl ∧ j < n ∧ p0 = nI b ∧ p1 = nI j ∧ ¬ ar 12 (20 * b + j) = 0 ∧ r = some (ad 8 (20 * b + j))) (hv_Bq G h sz) (hv_A h sz)) (XC := fun sz => hv_X G h sz (fun E u => u = h ∧ ((fRd p0 p1 p2 n dl (ar 12) (ar 11) dy = 1 ∧ E = "java/lang/IndexOutOfBoundsException") ∨ (fRd p0 p1 p2 n dl (ar 12) (ar 11) dy = 2 ∧ E = "java/lang/IllegalStateException")))) (by decide) rfl rfl (Nat.le_of_ble_eq_true rfl) ?_
  intro p e s m below meth c hr ht C I ls hl
  have hl : lv_has ls 5 [(0, .ref (ad 0 0)), (1, .int p0), (2, .int p1), (3, .int p2)] := hl
  refine lv_aload_n C.1 C.2.1 dX4_refundablePayment_0 rfl (lv_at hl 0 rfl) ?_
  refine lv_iload_n C.1 C.2.1 dX4_refundablePayment_1 rfl (lv_at hl 1 rfl) ?_
  refine lv_iload_n C.1 C.2.1 dX4_refundablePayment_2 rfl (lv_at hl 2 rfl) ?_
  refine hv_xkq I (vx_runV (As := [.int p0, .int p1]) (rest := []) C.fix (c_X4_paymentAt l hlt G h _ hD p0 p1 hn hdl hd) (cwV 2 C.2.2.2.2.1 gX4_refundablePayment_X4_paymentAt rfl rfl rfl (by decide +kernel) ⟨Nat.le_of_ble_eq_true rfl, Nat.le_of_ble_eq_true rfl⟩) (hv_preV C I (isD_0 hD) (r := (RX4, TX4, 6)) rfl) rfl rfl hl.1 rfl (lv_room (Nat.le_of_ble_eq_true rfl)) dX4_refundablePayment_3 ⟨Nat.le_of_ble_eq_true rfl, Nat.le_of_ble_eq_true rfl⟩) (fun E ce q9 u H locs hpx I hq9 hv9 hcl9 => hv_xout C ht I hq9 hv9 hcl9 ((by obtain ⟨g1, g2, g3⟩ := hpx; exact ⟨g2, Or.inl ⟨fRd_1 g3, g1⟩⟩)) (Nat.le_of_ble_eq_true rfl) (Nat.le_of_ble_eq_true rfl)) (fun ru_1 u_1 H locs pu_1 I => ?_)
  obtain ⟨e1, b, j, hb, hj, eb, ej, e2⟩ := pu_1; have e1 := e1.symm; subst e1; have e2 := e2.symm; subst e2
  subst eb
  subst ej
  have hb2 : b < d := by omega
  have ib : iw (nI b) 0 (nI dl - 1) = 1 := iwh_nI hb (by omega)
  have kb : (nI b).toNatClampNeg = b := nI_clamp (by omega)
  have ij : iw (nI j) 0 (nI n - 1) = 1 := iwh_nI hj (by omega)
  have kj : (nI j).toNatClampNeg = j := nI_clamp (by omega)
  by_cases hg : ar 12 (20 * b + j) = 0
  · refine W.eq (g2 := F0 m 6 ls [.null]) (congrArg (fun q => F0 m 6 ls (va_rf q :: [])) (paysF_none hg)) ?_
    refine lv_astoreN (lv' := [(4, .null), (0, .ref (ad 0 0)), (1, .int (nI b)), (2, .int (nI j)), (3, .int p2)]) C.1 C.2.1 dX4_refundablePayment_6 hl (by decide) rfl (fun ls hl => ?_)
    refine lv_aloadN C.1 C.2.1 dX4_refundablePayment_8 (lv_at hl 0 rfl) ?_
    refine lv_ifnullN (tgt := 30) C.1 C.2.1 dX4_refundablePayment_10 (by decide) ?_
    exact hv_throw (cls := "java/lang/IllegalStateException") (text := "no shares on the pay day, or too late") (names := ["java/lang/RuntimeException", "java/lang/Exception"]) (ik := 57) (is := 196) (ic := 61) C ht I hlt hl.1 (by decide +kernel) (by decide +kernel) (by decide +kernel) (by decide +kernel) (by decide +kernel) (by decide +kernel) (by decide +kernel) (by decide +kernel) dX4_refundablePayment_30 dX4_refundablePayment_33 dX4_refundablePayment_34 dX4_refundablePayment_36 dX4_refundablePayment_39 (by decide) (by decide) (Nat.le_of_ble_eq_true rfl) (Nat.le_of_ble_eq_true rfl) (⟨rfl, Or.inr ⟨(by unfold fRd ovF; first | (simp [ib, kb, ij, kj, hg]; done) | ((repeat' split) <;> first | rfl | contradiction)), rfl⟩⟩) (Nat.le_of_ble_eq_true rfl) (Nat.le_of_ble_eq_true rfl)
  · refine W.eq (g2 := F0 m 6 ls [.ref (ad 8 (20 * b + j))]) (congrArg (fun q => F0 m 6 ls (va_rf q :: [])) (paysF_some (by omega) hg)) ?_
    have hm : pmL d (ar 12) (20 * b + j) := ⟨by omega, hg⟩
    refine lv_astore (lv' := [(4, .ref (ad 8 (20 * b + j))), (0, .ref (ad 0 0)), (1, .int (nI b)), (2, .int (nI j)), (3, .int p2)]) C.1 C.2.1 dX4_refundablePayment_6 hl (by decide) rfl (fun ls hl => ?_)
    refine lv_aload C.1 C.2.1 dX4_refundablePayment_8 (lv_at hl 0 rfl) ?_
    refine lv_ifnull C.1 C.2.1 dX4_refundablePayment_10 ?_
    refine lv_aload_n C.1 C.2.1 dX4_refundablePayment_13 rfl (lv_at hl 1 rfl) ?_
    refine hv_get (ci := 5) (Cn := RX4) (T := TX4) (N := 6) (ref := "DividendDesk") (v := .int dy) C I (isD_0 hD) wX4 rfl 4 (by decide) (by decide +kernel) (fun _ h9 => h9) rfl dX4_refundablePayment_14 ?_
    refine lv_aload_n C.1 C.2.1 dX4_refundablePayment_17 rfl (lv_at hl 1 rfl) ?_
    refine lv_iload_n C.1 C.2.1 dX4_refundablePayment_18 rfl (lv_at hl 2 rfl) ?_
    refine hv_xkq I (vx_runV (As := [.int (nI b)]) (rest := [.int dy]) C.fix (c_X4_dividendAt l hlt G h _ hD (nI b) hdl hd) (cwV 1 C.2.2.2.2.1 gX4_refundablePayment_X4_dividendAt rfl rfl rfl (by decide +kernel) ⟨Nat.le_of_ble_eq_true rfl, Nat.le_of_ble_eq_true rfl⟩) (hv_preV C I (isD_0 hD) (r := (RX4, TX4, 6)) rfl) rfl rfl hl.1 rfl (lv_room (Nat.le_of_ble_eq_true rfl)) dX4_refundablePayment_19 ⟨Nat.le_of_ble_eq_true rfl, Nat.le_of_ble_eq_true rfl⟩) (fun E ce q9 u H locs hpx I hq9 hv9 hcl9 => hv_xout C ht I hq9 hv9 hcl9 ((by obtain ⟨g1, g2, g3⟩ := hpx; rw [ib] at g3; exact absurd g3 (by decide))) (Nat.le_of_ble_eq_true rfl) (Nat.le_of_ble_eq_true rfl)) (fun ru_2 u_2 H locs pu_2 I => ?_)
    obtain ⟨e1, j9, h9, ej, e2⟩ := pu_2; have e1 := e1.symm; subst e1; have e2 := e2.symm; subst e2; have e9 : b = j9 := (nI_eq (by omega) (by omega)).mp ej; subst e9
    refine hv_getN (ci := 1) (Cn := RX0) (T := TX0) (N := 3) (ref := "DividendDesk$Dividend") (host := "DividendDesk") (v := .int ((ar 11) b)) C I (isD_6 hD hb2) wX0 rfl 0 (by decide) (by decide +kernel) (fun _ h9 => h9) rfl dX4_refundablePayment_22 ?_
    refine lv_isub C.1 C.2.1 dX4_refundablePayment_25 ?_
    refine lv_iload_n C.1 C.2.1 dX4_refundablePayment_26 rfl (lv_at hl 4 rfl) ?_
    refine lv_icmp_le (tgt := 40) C.1 C.2.1 dX4_refundablePayment_27 (by decide) (fun c27 => ?_) (fun c27 => ?_)
    · refine lv_aload C.1 C.2.1 dX4_refundablePayment_40 (lv_at hl 0 rfl) ?_
      exact vx_ret (hv_qret (r := some (ad 8 (20 * b + j))) C hr (Or.inl ⟨_, rfl⟩) I (⟨(by unfold fRd ovF; first | (simp [ib, kb, ij, kj, hg, c27]; done) | ((repeat' split) <;> first | rfl | contradiction)), rfl, b, j, hb, hj, rfl, rfl, hg, rfl⟩) dX4_refundablePayment_42 (Nat.le_of_ble_eq_true rfl) (Nat.le_of_ble_eq_true rfl))
    · exact hv_throw (cls := "java/lang/IllegalStateException") (text := "no shares on the pay day, or too late") (names := ["java/lang/RuntimeException", "java/lang/Exception"]) (ik := 57) (is := 196) (ic := 61) C ht I hlt hl.1 (by decide +kernel) (by decide +kernel) (by decide +kernel) (by decide +kernel) (by decide +kernel) (by decide +kernel) (by decide +kernel) (by decide +kernel) dX4_refundablePayment_30 dX4_refundablePayment_33 dX4_refundablePayment_34 dX4_refundablePayment_36 dX4_refundablePayment_39 (by decide) (by decide) (Nat.le_of_ble_eq_true rfl) (Nat.le_of_ble_eq_true rfl) (⟨rfl, Or.inr ⟨(by unfold fRd ovF; first | (simp [ib, kb, ij, kj, hg, c27]; done) | ((repeat' split) <;> first | rfl | contradiction)), rfl⟩⟩) (Nat.le_of_ble_eq_true rfl) (Nat.le_of_ble_eq_true rfl)

set_option maxHeartbeats 4000000 in
set_option maxRecDepth 100000 in
theorem c_X4_refund (l : Launch) (hlt : l.stackTraces = false) (G : hv_G) (h : hv) (sz : Nat) {ad : Nat → Nat → Nat} {n d dl : Nat} {dy : Int32} {rf : Int64} {ar : Nat → Nat → Int32} {fm : Nat → Int32} {po : Nat → List (Int32 × Int32 × Int32)} (hD : isD G h ad n d dl dy rf ar fm po) (p0 p1 : Int32) (hn : n ≤ 20) (hdl : dl ≤ d) (hd : d ≤ 40) (hpo : ∀ m, pmL d (ar 12) m → (po m).length ≤ 32) : hv_Xi l yX4_refund wsX4_refund 12 400 6 36 G h sz [.ref (ad 0 0), .int p0, .int p1] (fun r u => fRf p0 p1 n dl (ar 12) (ar 11) dy = 0 ∧ r = lowF (ar 13 (20 * p0.toNatClampNeg + p1.toNatClampNeg)) (tall (po (20 * p0.toNatClampNeg + p1.toNatClampNeg)) (fm p0.toNatClampNeg ||| vfm dy (ar 7) n)) ∧ isD G u ad n d dl dy (rf + (lowF (ar 13 (20 * p0.toNatClampNeg + p1.toNatClampNeg)) (tall (po (20 * p0.toNatClampNeg + p1.toNatClampNeg)) (fm p0.toNatClampNeg ||| vfm dy (ar 7) n))).toInt64) (va_up ar 13 (upd (ar 13) (20 * p0.toNatClampNeg + p1.toNatClampNeg) (ar 13 (20 * p0.toNatClampNeg + p1.toNatClampNeg) - lowF (ar 13 (20 * p0.toNatClampNeg + p1.toNatClampNeg)) (tall (po (20 * p0.toNatClampNeg + p1.toNatClampNeg)) (fm p0.toNatClampNeg ||| vfm dy (ar 7) n))))) fm po) (fun E u => u = h ∧ ((fRf p0 p1 n dl (ar 12) (ar 11) dy = 1 ∧ E = "java/lang/IndexOutOfBoundsException") ∨ (fRf p0 p1 n dl (ar 12) (ar 11) dy = 2 ∧ E = "java/lang/IllegalStateException"))) := by
  have wX0 : ∀ w ∈ wsX00, w ∈ wsX4_refund := by decide +kernel
  refine hv_enterX (y := yX4_refund) (avs := [.ref (ad 0 0), .int p0, .int p1]) (maxL := 5) (Qf := fun sz => va_Qi (fun r u => fRf p0 p1 n dl (ar 12) (ar 11) dy = 0 ∧ r = lowF (ar 13 (20 * p0.toNatClampNeg + p1.toNatClampNeg)) (tall (po (20 * p0.toNatClampNeg + p1.toNatClampNeg)) (fm p0.toNatClampNeg ||| vfm dy (ar 7) n)) ∧ isD G u ad n d dl dy (rf + (lowF (ar 13 (20 * p0.toNatClampNeg + p1.toNatClampNeg)) (tall (po (20 * p0.toNatClampNeg + p1.toNatClampNeg)) (fm p0.toNatClampNeg ||| vfm dy (ar 7) n))).toInt64) (va_up ar 13 (upd (ar 13) (20 * p0.toNatClampNeg + p1.toNatClampNeg) (ar 13 (20 * p0.toNatClampNeg + p1.toNatClampNeg) - lowF (ar 13 (20 * p0.toNatClampNeg + p1.toNatClampNeg)) (tall (po (20 * p0.toNatClampNeg + p1.toNatClampNeg)) (fm p0.toNatClampNeg ||| vfm dy (ar 7) n))))) fm po) (hv_Bq G h sz) (hv_A h sz)) (XC := fun sz => hv_X G h sz (fun E u => u = h ∧ ((fRf p0 p1 n dl (ar 12) (ar 11) dy = 1 ∧ E = "java/lang/IndexOutOfBoundsException") ∨ (fRf p0 p1 n dl (ar 12) (ar 11) dy = 2 ∧ E = "java/lang/IllegalStateException")))) (by decide) rfl rfl (Nat.le_of_ble_eq_true rfl) ?_
  intro p e s m below meth c hr ht C I ls hl
  have hl : lv_has ls 5 [(0, .ref (ad 0 0)), (1, .int p0), (2, .int p1)] := hl
  refine lv_aload_n C.1 C.2.1 dX4_refund_0 rfl (lv_at hl 0 rfl) ?_
  refine lv_iload_n C.1 C.2.1 dX4_refund_1 rfl (lv_at hl 1 rfl) ?_
  refine lv_iload_n C.1 C.2.1 dX4_refund_2 rfl (lv_at hl 2 rfl) ?_
  refine lv_bipush (v := 60) C.1 C.2.1 dX4_refund_3 (by decide) ?_
  refine hv_xkq I (vx_runV (As := [.int p0, .int p1, .int 60]) (rest := []) C.fix (c_X4_refundablePayment l hlt G h _ hD p0 p1 60 hn hdl hd) (cwV 3 C.2.2.2.2.1 gX4_refund_X4_refundablePayment rfl rfl rfl (by decide +kernel) ⟨Nat.le_of_ble_eq_true rfl, Nat.le_of_ble_eq_true rfl⟩) (hv_preV C I (isD_0 hD) (r := (RX4, TX4, 6)) rfl) rfl rfl hl.1 rfl (lv_room (Nat.le_of_ble_eq_true rfl)) dX4_refund_5 ⟨Nat.le_of_ble_eq_true rfl, Nat.le_of_ble_eq_true rfl⟩) (fun E ce q9 u H locs hpx I hq9 hv9 hcl9 => hv_xout C ht I hq9 hv9 hcl9 (hpx) (Nat.le_of_ble_eq_true rfl) (Nat.le_of_ble_eq_true rfl)) (fun ru_1 u_1 H locs pu_1 I => ?_)
  obtain ⟨eF, e1, b, j, hb, hj, eb, ej, hg, e2⟩ := pu_1; have e1 := e1.symm; subst e1; have e2 := e2.symm; subst e2
  subst eb
  subst ej
  have hb2 : b < d := by omega
  have ib : iw (nI b) 0 (nI dl - 1) = 1 := iwh_nI hb (by omega)
  have kb : (nI b).toNatClampNeg = b := nI_clamp (by omega)
  have ij : iw (nI j) 0 (nI n - 1) = 1 := iwh_nI hj (by omega)
  have kj : (nI j).toNatClampNeg = j := nI_clamp (by omega)
  have hm : pmL d (ar 12) (20 * b + j) := ⟨by omega, hg⟩
  refine lv_astore_n (lv' := [(3, .ref (ad 8 (20 * b + j))), (0, .ref (ad 0 0)), (1, .int (nI b)), (2, .int (nI j))]) C.1 C.2.1 dX4_refund_8 rfl hl (by decide) rfl (fun ls hl => ?_)
  refine lv_aload_n C.1 C.2.1 dX4_refund_9 rfl (lv_at hl 1 rfl) ?_
  refine lv_iload_n C.1 C.2.1 dX4_refund_10 rfl (lv_at hl 2 rfl) ?_
  refine hv_xkq I (vx_runV (As := [.int (nI b)]) (rest := []) C.fix (c_X4_dividendAt l hlt G h _ hD (nI b) hdl hd) (cwV 1 C.2.2.2.2.1 gX4_refund_X4_dividendAt rfl rfl rfl (by decide +kernel) ⟨Nat.le_of_ble_eq_true rfl, Nat.le_of_ble_eq_true rfl⟩) (hv_preV C I (isD_0 hD) (r := (RX4, TX4, 6)) rfl) rfl rfl hl.1 rfl (lv_room (Nat.le_of_ble_eq_true rfl)) dX4_refund_11 ⟨Nat.le_of_ble_eq_true rfl, Nat.le_of_ble_eq_true rfl⟩) (fun E ce q9 u H locs hpx I hq9 hv9 hcl9 => hv_xout C ht I hq9 hv9 hcl9 ((by obtain ⟨g1, g2, g3⟩ := hpx; rw [ib] at g3; exact absurd g3 (by decide))) (Nat.le_of_ble_eq_true rfl) (Nat.le_of_ble_eq_true rfl)) (fun ru_2 u_2 H locs pu_2 I => ?_)
  obtain ⟨e1, j9, h9, ej, e2⟩ := pu_2; have e1 := e1.symm; subst e1; have e2 := e2.symm; subst e2; have e9 : b = j9 := (nI_eq (by omega) (by omega)).mp ej; subst e9
  refine hv_getN (ci := 1) (Cn := RX0) (T := TX0) (N := 3) (ref := "DividendDesk$Dividend") (host := "DividendDesk") (v := .int (fm b)) C I (isD_6 hD hb2) wX0 rfl 1 (by decide) (by decide +kernel) (fun _ h9 => h9) rfl dX4_refund_14 ?_
  refine lv_istore (lv' := [(4, .int (fm b)), (3, .ref (ad 8 (20 * b + j))), (0, .ref (ad 0 0)), (1, .int (nI b)), (2, .int (nI j))]) C.1 C.2.1 dX4_refund_17 hl (by decide) rfl (fun ls hl => ?_)
  refine lv_aload_n C.1 C.2.1 dX4_refund_19 rfl (lv_at hl 2 rfl) ?_
  refine lv_aload_n C.1 C.2.1 dX4_refund_20 rfl (lv_at hl 1 rfl) ?_
  refine lv_aload_n C.1 C.2.1 dX4_refund_21 rfl (lv_at hl 1 rfl) ?_
  refine lv_iload C.1 C.2.1 dX4_refund_22 (lv_at hl 0 rfl) ?_
  refine lv_aload_n C.1 C.2.1 dX4_refund_24 rfl (lv_at hl 2 rfl) ?_
  refine hv_ki I (va_runV (As := []) (rest := [.int (fm b), .ref (ad 8 (20 * b + j)), .ref (ad 8 (20 * b + j)), .ref (ad 0 0)]) C.fix (c_X4_validForms l G h _ hD hn) (cwV 0 C.2.2.2.2.1 gX4_refund_X4_validForms rfl rfl rfl (by decide +kernel) ⟨Nat.le_of_ble_eq_true rfl, Nat.le_of_ble_eq_true rfl⟩) (hv_preV C I (isD_0 hD) (r := (RX4, TX4, 6)) rfl) rfl rfl hl.1 rfl (lv_room (Nat.le_of_ble_eq_true rfl)) dX4_refund_25 ⟨Nat.le_of_ble_eq_true rfl, Nat.le_of_ble_eq_true rfl⟩) (fun ru_3 u_3 H locs pu_3 I => ?_)
  obtain ⟨e1, e2⟩ := pu_3; have e1 := e1.symm; subst e1; have e2 := e2.symm; subst e2
  refine lv_ior C.1 C.2.1 dX4_refund_28 ?_
  refine hv_ki I (va_runVN (As := [.int ((fm b) ||| (vfm dy (ar 7) n))]) (rest := [.ref (ad 8 (20 * b + j)), .ref (ad 0 0)]) C.fix (c_X2_taxWith l G h _ (isD_8 hD hm) (isD_A hD hm) (fun hz => isD_B hD hm hz) (fun k hk => isD_9 hD hm hk (Nat.lt_of_lt_of_le hk (hpo _ hm))) (hpo _ hm) ((fm b) ||| (vfm dy (ar 7) n))) ⟨va_cnB 1 C.2.2.2.2.1 gX4_refund_X2_taxWith_n155 rfl rfl rfl (C.nw (w := .methodLinkNest RX4 155 yX2_taxWith "DividendDesk") (by decide +kernel)) (C.ts (by decide +kernel)) (by decide +kernel) ⟨Nat.le_of_ble_eq_true rfl, Nat.le_of_ble_eq_true rfl⟩, C.ts (by decide +kernel), C.ts (by decide +kernel)⟩ (hv_preV C I (isD_8 hD hm) (r := (RX2, TX2, 3)) rfl) rfl rfl hl.1 rfl (lv_room (Nat.le_of_ble_eq_true rfl)) dX4_refund_29 ⟨Nat.le_of_ble_eq_true rfl, Nat.le_of_ble_eq_true rfl⟩) (fun ru_4 u_4 H locs pu_4 I => ?_)
  obtain ⟨e1, e2⟩ := pu_4; have e1 := e1.symm; subst e1; have e2 := e2.symm; subst e2
  refine hv_ki I (va_runV (As := [.ref (ad 8 (20 * b + j)), .int (tall (po (20 * b + j)) ((fm b) ||| (vfm dy (ar 7) n)))]) (rest := []) C.fix (c_X4_giveBack l G h _ hD (20 * b + j) hm (tall (po (20 * b + j)) ((fm b) ||| (vfm dy (ar 7) n)))) (cwV 2 C.2.2.2.2.1 gX4_refund_X4_giveBack rfl rfl rfl (by decide +kernel) ⟨Nat.le_of_ble_eq_true rfl, Nat.le_of_ble_eq_true rfl⟩) (hv_preV C I (isD_0 hD) (r := (RX4, TX4, 6)) rfl) rfl rfl hl.1 rfl (lv_room (Nat.le_of_ble_eq_true rfl)) dX4_refund_32 ⟨Nat.le_of_ble_eq_true rfl, Nat.le_of_ble_eq_true rfl⟩) (fun ru_5 u_5 H locs pu_5 I => ?_)
  obtain ⟨e1, hD⟩ := pu_5; have e1 := e1.symm; subst e1
  exact vx_ret (hv_iret (v := (lowF (ar 13 (20 * b + j)) (tall (po (20 * b + j)) ((fm b) ||| (vfm dy (ar 7) n))))) C hr I (⟨eF, by rw [kb, kj], by rw [kb, kj]; exact hD⟩) dX4_refund_35 (Nat.le_of_ble_eq_true rfl) (Nat.le_of_ble_eq_true rfl))

set_option maxHeartbeats 4000000 in
set_option maxRecDepth 100000 in
theorem c_X4_claim (l : Launch) (hlt : l.stackTraces = false) (G : hv_G) (h : hv) (sz : Nat) {ad : Nat → Nat → Nat} {n d dl : Nat} {dy : Int32} {rf : Int64} {ar : Nat → Nat → Int32} {fm : Nat → Int32} {po : Nat → List (Int32 × Int32 × Int32)} (hD : isD G h ad n d dl dy rf ar fm po) (p0 p1 : Int32) (hn : n ≤ 20) (hdl : dl ≤ d) (hd : d ≤ 40) (hpo : ∀ m, pmL d (ar 12) m → (po m).length ≤ 32) : hv_Xi l yX4_claim wsX4_claim 12 400 8 48 G h sz [.ref (ad 0 0), .int p0, .int p1] (fun r u => fCl p0 p1 n dl (ar 12) (ar 11) (ar 7) dy = 0 ∧ r = lowF (ar 13 (20 * p0.toNatClampNeg + p1.toNatClampNeg)) (tall (po (20 * p0.toNatClampNeg + p1.toNatClampNeg)) (-1)) ∧ isD G u ad n d dl dy (rf + (lowF (ar 13 (20 * p0.toNatClampNeg + p1.toNatClampNeg)) (tall (po (20 * p0.toNatClampNeg + p1.toNatClampNeg)) (-1))).toInt64) (va_up ar 13 (upd (ar 13) (20 * p0.toNatClampNeg + p1.toNatClampNeg) (ar 13 (20 * p0.toNatClampNeg + p1.toNatClampNeg) - lowF (ar 13 (20 * p0.toNatClampNeg + p1.toNatClampNeg)) (tall (po (20 * p0.toNatClampNeg + p1.toNatClampNeg)) (-1))))) fm po) (fun E u => u = h ∧ ((fCl p0 p1 n dl (ar 12) (ar 11) (ar 7) dy = 1 ∧ E = "java/lang/IndexOutOfBoundsException") ∨ (fCl p0 p1 n dl (ar 12) (ar 11) (ar 7) dy = 2 ∧ E = "java/lang/IllegalStateException"))) := by
  have wX4 : ∀ w ∈ wsX40, w ∈ wsX4_claim := by decide +kernel
  refine hv_enterX (y := yX4_claim) (avs := [.ref (ad 0 0), .int p0, .int p1]) (maxL := 4) (Qf := fun sz => va_Qi (fun r u => fCl p0 p1 n dl (ar 12) (ar 11) (ar 7) dy = 0 ∧ r = lowF (ar 13 (20 * p0.toNatClampNeg + p1.toNatClampNeg)) (tall (po (20 * p0.toNatClampNeg + p1.toNatClampNeg)) (-1)) ∧ isD G u ad n d dl dy (rf + (lowF (ar 13 (20 * p0.toNatClampNeg + p1.toNatClampNeg)) (tall (po (20 * p0.toNatClampNeg + p1.toNatClampNeg)) (-1))).toInt64) (va_up ar 13 (upd (ar 13) (20 * p0.toNatClampNeg + p1.toNatClampNeg) (ar 13 (20 * p0.toNatClampNeg + p1.toNatClampNeg) - lowF (ar 13 (20 * p0.toNatClampNeg + p1.toNatClampNeg)) (tall (po (20 * p0.toNatClampNeg + p1.toNatClampNeg)) (-1))))) fm po) (hv_Bq G h sz) (hv_A h sz)) (XC := fun sz => hv_X G h sz (fun E u => u = h ∧ ((fCl p0 p1 n dl (ar 12) (ar 11) (ar 7) dy = 1 ∧ E = "java/lang/IndexOutOfBoundsException") ∨ (fCl p0 p1 n dl (ar 12) (ar 11) (ar 7) dy = 2 ∧ E = "java/lang/IllegalStateException")))) (by decide) rfl rfl (Nat.le_of_ble_eq_true rfl) ?_
  intro p e s m below meth c hr ht C I ls hl
  have hl : lv_has ls 4 [(0, .ref (ad 0 0)), (1, .int p0), (2, .int p1)] := hl
  refine lv_aload_n C.1 C.2.1 dX4_claim_0 rfl (lv_at hl 0 rfl) ?_
  refine lv_iload_n C.1 C.2.1 dX4_claim_1 rfl (lv_at hl 1 rfl) ?_
  refine lv_iload_n C.1 C.2.1 dX4_claim_2 rfl (lv_at hl 2 rfl) ?_
  refine lv_sipush (v := 1080) C.1 C.2.1 dX4_claim_3 (by decide) ?_
  refine hv_xkq I (vx_runV (As := [.int p0, .int p1, .int 1080]) (rest := []) C.fix (c_X4_refundablePayment l hlt G h _ hD p0 p1 1080 hn hdl hd) (cwV 3 C.2.2.2.2.1 gX4_claim_X4_refundablePayment rfl rfl rfl (by decide +kernel) ⟨Nat.le_of_ble_eq_true rfl, Nat.le_of_ble_eq_true rfl⟩) (hv_preV C I (isD_0 hD) (r := (RX4, TX4, 6)) rfl) rfl rfl hl.1 rfl (lv_room (Nat.le_of_ble_eq_true rfl)) dX4_claim_6 ⟨Nat.le_of_ble_eq_true rfl, Nat.le_of_ble_eq_true rfl⟩) (fun E ce q9 u H locs hpx I hq9 hv9 hcl9 => hv_xout C ht I hq9 hv9 hcl9 (⟨hpx.1, hpx.2.imp (fun z => ⟨fCl_n (by decide) z.1, z.2⟩) (fun z => ⟨fCl_n (by decide) z.1, z.2⟩)⟩) (Nat.le_of_ble_eq_true rfl) (Nat.le_of_ble_eq_true rfl)) (fun ru_1 u_1 H locs pu_1 I => ?_)
  obtain ⟨eF, e1, b, j, hb, hj, eb, ej, hg, e2⟩ := pu_1; have e1 := e1.symm; subst e1; have e2 := e2.symm; subst e2
  subst eb
  subst ej
  have hb2 : b < d := by omega
  have ib : iw (nI b) 0 (nI dl - 1) = 1 := iwh_nI hb (by omega)
  have kb : (nI b).toNatClampNeg = b := nI_clamp (by omega)
  have ij : iw (nI j) 0 (nI n - 1) = 1 := iwh_nI hj (by omega)
  have kj : (nI j).toNatClampNeg = j := nI_clamp (by omega)
  have hm : pmL d (ar 12) (20 * b + j) := ⟨by omega, hg⟩
  refine lv_astore_n (lv' := [(3, .ref (ad 8 (20 * b + j))), (0, .ref (ad 0 0)), (1, .int (nI b)), (2, .int (nI j))]) C.1 C.2.1 dX4_claim_9 rfl hl (by decide) rfl (fun ls hl => ?_)
  refine lv_aload_n C.1 C.2.1 dX4_claim_10 rfl (lv_at hl 1 rfl) ?_
  refine lv_iload_n C.1 C.2.1 dX4_claim_11 rfl (lv_at hl 3 rfl) ?_
  refine hv_xkq I (vx_runV (As := [.int (nI j)]) (rest := []) C.fix (c_X4_holderAt l hlt G h _ hD (nI j) hn) (cwV 1 C.2.2.2.2.1 gX4_claim_X4_holderAt rfl rfl rfl (by decide +kernel) ⟨Nat.le_of_ble_eq_true rfl, Nat.le_of_ble_eq_true rfl⟩) (hv_preV C I (isD_0 hD) (r := (RX4, TX4, 6)) rfl) rfl rfl hl.1 rfl (lv_room (Nat.le_of_ble_eq_true rfl)) dX4_claim_12 ⟨Nat.le_of_ble_eq_true rfl, Nat.le_of_ble_eq_true rfl⟩) (fun E ce q9 u H locs hpx I hq9 hv9 hcl9 => hv_xout C ht I hq9 hv9 hcl9 ((by obtain ⟨g1, g2, g3⟩ := hpx; rw [ij] at g3; exact absurd g3 (by decide))) (Nat.le_of_ble_eq_true rfl) (Nat.le_of_ble_eq_true rfl)) (fun ru_2 u_2 H locs pu_2 I => ?_)
  obtain ⟨e1, j9, h9, ej, e2⟩ := pu_2; have e1 := e1.symm; subst e1; have e2 := e2.symm; subst e2; have e9 : j = j9 := (nI_eq (by omega) (by omega)).mp ej; subst e9
  refine lv_aload_n C.1 C.2.1 dX4_claim_15 rfl (lv_at hl 1 rfl) ?_
  refine hv_get (ci := 5) (Cn := RX4) (T := TX4) (N := 6) (ref := "DividendDesk") (v := .int dy) C I (isD_0 hD) wX4 rfl 4 (by decide) (by decide +kernel) (fun _ h9 => h9) rfl dX4_claim_16 ?_
  refine hv_ki I (va_runVN (As := [.int dy]) (rest := []) C.fix (c_X1_hasFormOn l G h _ (isD_4 hD hj) dy) ⟨va_cnB 1 C.2.2.2.2.1 gX4_claim_X1_hasFormOn_n113 rfl rfl rfl (C.nw (w := .methodLinkNest RX4 113 yX1_hasFormOn "DividendDesk") (by decide +kernel)) (C.ts (by decide +kernel)) (by decide +kernel) ⟨Nat.le_of_ble_eq_true rfl, Nat.le_of_ble_eq_true rfl⟩, C.ts (by decide +kernel), C.ts (by decide +kernel)⟩ (hv_preV C I (isD_4 hD hj) (r := (RX1, TX1, 6)) rfl) rfl rfl hl.1 rfl (lv_room (Nat.le_of_ble_eq_true rfl)) dX4_claim_19 ⟨Nat.le_of_ble_eq_true rfl, Nat.le_of_ble_eq_true rfl⟩) (fun ru_3 u_3 H locs pu_3 I => ?_)
  obtain ⟨e1, e2⟩ := pu_3; have e1 := e1.symm; subst e1; have e2 := e2.symm; subst e2
  refine lv_if_ne (tgt := 35) C.1 C.2.1 dX4_claim_22 (by decide) (fun c22 => ?_) (fun c22 => ?_)
  · refine lv_aload_n C.1 C.2.1 dX4_claim_35 rfl (lv_at hl 1 rfl) ?_
    refine lv_aload_n C.1 C.2.1 dX4_claim_36 rfl (lv_at hl 0 rfl) ?_
    refine lv_aload_n C.1 C.2.1 dX4_claim_37 rfl (lv_at hl 0 rfl) ?_
    refine lv_iconst (v := (-1)) C.1 C.2.1 dX4_claim_38 (by decide) ?_
    refine hv_ki I (va_runVN (As := [.int (-1)]) (rest := [.ref (ad 8 (20 * b + j)), .ref (ad 0 0)]) C.fix (c_X2_taxWith l G h _ (isD_8 hD hm) (isD_A hD hm) (fun hz => isD_B hD hm hz) (fun k hk => isD_9 hD hm hk (Nat.lt_of_lt_of_le hk (hpo _ hm))) (hpo _ hm) (-1)) ⟨va_cnB 1 C.2.2.2.2.1 gX4_claim_X2_taxWith_n155 rfl rfl rfl (C.nw (w := .methodLinkNest RX4 155 yX2_taxWith "DividendDesk") (by decide +kernel)) (C.ts (by decide +kernel)) (by decide +kernel) ⟨Nat.le_of_ble_eq_true rfl, Nat.le_of_ble_eq_true rfl⟩, C.ts (by decide +kernel), C.ts (by decide +kernel)⟩ (hv_preV C I (isD_8 hD hm) (r := (RX2, TX2, 3)) rfl) rfl rfl hl.1 rfl (lv_room (Nat.le_of_ble_eq_true rfl)) dX4_claim_39 ⟨Nat.le_of_ble_eq_true rfl, Nat.le_of_ble_eq_true rfl⟩) (fun ru_4 u_4 H locs pu_4 I => ?_)
    obtain ⟨e1, e2⟩ := pu_4; have e1 := e1.symm; subst e1; have e2 := e2.symm; subst e2
    refine hv_ki I (va_runV (As := [.ref (ad 8 (20 * b + j)), .int (tall (po (20 * b + j)) (-1))]) (rest := []) C.fix (c_X4_giveBack l G h _ hD (20 * b + j) hm (tall (po (20 * b + j)) (-1))) (cwV 2 C.2.2.2.2.1 gX4_claim_X4_giveBack rfl rfl rfl (by decide +kernel) ⟨Nat.le_of_ble_eq_true rfl, Nat.le_of_ble_eq_true rfl⟩) (hv_preV C I (isD_0 hD) (r := (RX4, TX4, 6)) rfl) rfl rfl hl.1 rfl (lv_room (Nat.le_of_ble_eq_true rfl)) dX4_claim_42 ⟨Nat.le_of_ble_eq_true rfl, Nat.le_of_ble_eq_true rfl⟩) (fun ru_5 u_5 H locs pu_5 I => ?_)
    obtain ⟨e1, hD⟩ := pu_5; have e1 := e1.symm; subst e1
    exact vx_ret (hv_iret (v := (lowF (ar 13 (20 * b + j)) (tall (po (20 * b + j)) (-1)))) C hr I (⟨by rw [fCl_eq, eF, if_pos rfl, kj, if_neg c22], by rw [kb, kj], by rw [kb, kj]; exact hD⟩) dX4_claim_45 (Nat.le_of_ble_eq_true rfl) (Nat.le_of_ble_eq_true rfl))
  · exact hv_throw (cls := "java/lang/IllegalStateException") (text := "no valid form") (names := ["java/lang/RuntimeException", "java/lang/Exception"]) (ik := 57) (is := 177) (ic := 61) C ht I hlt hl.1 (by decide +kernel) (by decide +kernel) (by decide +kernel) (by decide +kernel) (by decide +kernel) (by decide +kernel) (by decide +kernel) (by decide +kernel) dX4_claim_25 dX4_claim_28 dX4_claim_29 dX4_claim_31 dX4_claim_34 (by decide) (by decide) (Nat.le_of_ble_eq_true rfl) (Nat.le_of_ble_eq_true rfl) (⟨rfl, Or.inr ⟨by rw [fCl_eq, eF, if_pos rfl, kj, if_pos c22], rfl⟩⟩) (Nat.le_of_ble_eq_true rfl) (Nat.le_of_ble_eq_true rfl)
