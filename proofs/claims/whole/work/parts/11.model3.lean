/-! ===== the reference: taxes ===== -/
def ovF (gr po dy ds : Int32) : Int32 := if gr = 0 then 1 else if dy - po ≤ ds then 0 else 1
def mor (x t : Int32) : Int32 := if x ≤ t then 0 else x - t
def shr (al : Int64) (f : Nat → Int32) (sm : Int32) (k : Nat) : Int64 := al * (f k).toInt64 / sm.toInt64
def lft (al : Int64) (f : Nat → Int32) (sm : Int32) : Nat → Int64
  | 0 => al
  | k + 1 => lft al f sm k - shr al f sm k
def dsum (f : Nat → Int32) : Nat → Int32
  | 0 => 0
  | k + 1 => dsum f k + f (19 - k)
def low (f : Nat → Int32) : Nat → Int32
  | 0 => -1
  | k + 1 => if f (19 - k) ≤ 0 then low f k else nI (19 - k)
def lfA (al : Int64) (f : Nat → Int32) (sm lw : Int32) (k : Nat) : Int64 := if nI k = lw then lft al f sm 20 else 0
def txP (al : Int64) (f : Nat → Int32) (sm lw : Int32) (sr : Nat → Int32) (tr : Nat → Int32) (b : Nat) (k : Nat) : Int32 := if f k = 0 then 0 else taxL (shr al f sm k + lfA al f sm lw k) (if tr k = 0 then 30 else sr (b + k))
def txS (al : Int64) (f : Nat → Int32) (sm lw : Int32) (sr : Nat → Int32) (tr : Nat → Int32) (b : Nat) : Nat → Int32
  | 0 => 0
  | k + 1 => txS al f sm lw sr tr b k + txP al f sm lw sr tr b k
def trF (dy : Int32) (vt wv : Nat → Int32) (D j : Nat) (of an : Int32) (k : Nat) : Int32 := if cnt dy (vt j) (wv (20 * D + j)) of an = 0 then 0 else if cnt dy (vt k) (wv (20 * D + k)) of an = 0 then 0 else 1
def ptF (pt : Nat → Int32) (D j : Nat) : Nat → Int32 := fun k => pt (20 * (20 * D + j) + k)
def pTx (dy : Int32) (n : Nat) (vt gr sr wv pt : Nat → Int32) (D j : Nat) (of an : Int32) : Int32 :=
  if dsum (ptF pt D j) 20 = 0 then taxL (gr (20 * D + j)).toInt64 30 else txS (gr (20 * D + j)).toInt64 (ptF pt D j) (dsum (ptF pt D j) 20) (low (ptF pt D j) 20) sr (trF dy vt wv D j of an) (20 * D) n
def taxF (dy : Int32) (n : Nat) (kd vt gr sr ow wv pt : Nat → Int32) (D j : Nat) (of an : Int32) : Int32 :=
  if kd j = 2 then pTx dy n vt gr sr wv pt D j of an else taxL (gr (20 * D + j)).toInt64 (if cnt dy (vt j) (wv (20 * D + j)) of an = 0 then 30 else ow (20 * D + j))
def hsum (f : Nat → Int32) : Nat → Int64
  | 0 => 0
  | k + 1 => hsum f k + (f k).toInt64
theorem dix {i : Nat} (hi : i < 20) : nI (20 - i) - 1 = nI (19 - i) := by rw [show 20 - i = (19 - i) + 1 by omega]; exact nI_pred _
theorem dixN {i : Nat} (hi : i < 20) : nI (20 - i) - 1 + (-1) = nI (20 - (i + 1)) - 1 := by
  rw [dix hi, show 20 - (i + 1) = 19 - i by omega]
  exact (Int32.sub_eq_add_neg _ _).symm
theorem dix0 {i : Nat} (hi : i ≤ 20) (c : ¬ nI (20 - i) - 1 < 0) : i < 20 := by
  apply Nat.lt_of_not_le
  intro z
  have e : i = 20 := by omega
  subst e
  exact c (by decide)
theorem dix1 {i : Nat} (hi : i ≤ 20) (c : nI (20 - i) - 1 < 0) : i = 20 := by
  apply Nat.le_antisymm hi
  apply Nat.le_of_not_lt
  intro z
  rw [dix z] at c
  exact nI_nlt (Nat.zero_le _) (by omega) c
set_option maxHeartbeats 4000000 in
set_option maxRecDepth 100000 in
theorem c_X5_counts (l : Launch) (G : hv_G) (h : hv) (sz : Nat) {o : Nat} {ad : Nat → Nat} {dy : Int32} {n d : Nat} {rf : Int64} {th : Int32} {ar : Nat → Nat → Int32} (hM : isM G h o ad dy n d rf th ar) (D : Nat) (hD : D < 40) (k : Nat) (hk : k < 20) (q0 q1 : Int32) : hv_Mi l yX5_counts wsX5_counts 1 30 0 0 G h sz [.ref o, .int (nI D), .int (nI k), .int q0, .int q1] (fun r u => u = h ∧ r = cnt dy (ar 7 k) (ar 17 (20 * D + k)) q0 q1) := by
  have wX5 : ∀ w ∈ wsX50, w ∈ wsX5_counts := by decide +kernel
  refine hv_enter (y := yX5_counts) (avs := [.ref o, .int (nI D), .int (nI k), .int q0, .int q1]) (maxL := 5) (Qf := fun sz => va_Qi (fun r u => u = h ∧ r = cnt dy (ar 7 k) (ar 17 (20 * D + k)) q0 q1) (hv_Bq G h sz) (hv_A h sz)) (by decide) rfl rfl (Nat.le_of_ble_eq_true rfl) ?_
  intro p e s m below meth c hr hnm C I ls hl
  have hl : lv_has ls 5 [(0, .ref o), (1, .int (nI D)), (2, .int (nI k)), (3, .int q0), (4, .int q1)] := hl
  refine lv_iload C.1 C.2.1 dX5_counts_0 (lv_at hl 4 rfl) ?_
  refine lv_if_ne (tgt := 31) C.1 C.2.1 dX5_counts_2 (by decide) (fun c2 => ?_) (fun c2 => ?_)
  · refine lv_iconst (v := 1) C.1 C.2.1 dX5_counts_31 (by decide) ?_
    refine lv_goto (tgt := 36) C.1 C.2.1 dX5_counts_32 (by decide) ?_
    exact hv_zret (v := 1) C hr I rfl (⟨rfl, by unfold cnt; first | (simp [c2]; done) | ((repeat' split) <;> first | rfl | contradiction)⟩) dX5_counts_36 (Nat.le_of_ble_eq_true rfl) (Nat.le_of_ble_eq_true rfl)
  · refine lv_aload_n C.1 C.2.1 dX5_counts_5 rfl (lv_at hl 0 rfl) ?_
    refine hv_get (ci := 6) (Cn := RX5) (T := TX5) (N := 21) (ref := "DividendDeskModel") (v := .ref (ad 17)) C I hM.1 wX5 rfl 17 (by decide) (by decide +kernel) (fun _ h9 => h9) rfl dX5_counts_6 ?_
    refine lv_bipush (v := 20) C.1 C.2.1 dX5_counts_9 (by decide) ?_
    refine lv_iload_n C.1 C.2.1 dX5_counts_11 rfl (lv_at hl 1 rfl) ?_
    refine lv_imul C.1 C.2.1 dX5_counts_12 ?_
    refine lv_iload_n C.1 C.2.1 dX5_counts_13 rfl (lv_at hl 2 rfl) ?_
    refine lv_iadd C.1 C.2.1 dX5_counts_14 ?_
    refine lv_topi (fun z_1 ez_1 => ?_)
    have ez_1 : z_1 = nI (20 * D + k) := by rw [ez_1]; exact ixN D k
    subst ez_1
    refine hv_zaldN (n := 800) (f := ar 17) C I (isM_a hM 17 rfl) (show 20 * D + k < 800 by omega) (by decide) dX5_counts_15 ?_
    refine lv_if_ne (tgt := 31) C.1 C.2.1 dX5_counts_16 (by decide) (fun c16 => ?_) (fun c16 => ?_)
    · refine lv_iconst (v := 1) C.1 C.2.1 dX5_counts_31 (by decide) ?_
      refine lv_goto (tgt := 36) C.1 C.2.1 dX5_counts_32 (by decide) ?_
      exact hv_zret (v := 1) C hr I rfl (⟨rfl, by unfold cnt; first | (simp [c2, c16]; done) | ((repeat' split) <;> first | rfl | contradiction)⟩) dX5_counts_36 (Nat.le_of_ble_eq_true rfl) (Nat.le_of_ble_eq_true rfl)
    · refine lv_iload_n C.1 C.2.1 dX5_counts_19 rfl (lv_at hl 3 rfl) ?_
      refine lv_if_eq (tgt := 35) C.1 C.2.1 dX5_counts_20 (by decide) (fun c20 => ?_) (fun c20 => ?_)
      · refine lv_iconst (v := 0) C.1 C.2.1 dX5_counts_35 (by decide) ?_
        exact hv_zret (v := 0) C hr I rfl (⟨rfl, by unfold cnt; first | (simp [c2, c16, c20]; done) | ((repeat' split) <;> first | rfl | contradiction)⟩) dX5_counts_36 (Nat.le_of_ble_eq_true rfl) (Nat.le_of_ble_eq_true rfl)
      · refine lv_aload_n C.1 C.2.1 dX5_counts_23 rfl (lv_at hl 0 rfl) ?_
        refine lv_iload_n C.1 C.2.1 dX5_counts_24 rfl (lv_at hl 2 rfl) ?_
        refine hv_ki I (va_runV (As := [.int (nI k)]) (rest := []) C.fix (c_X5_hasForm l G h _ hM k hk) (cwV 1 C.2.2.2.2.1 gX5_counts_X5_hasForm rfl rfl rfl (by decide +kernel) ⟨Nat.le_of_ble_eq_true rfl, Nat.le_of_ble_eq_true rfl⟩) (hv_preV C I hM.1 (r := (RX5, TX5, 21)) rfl) rfl rfl hl.1 rfl (lv_room (Nat.le_of_ble_eq_true rfl)) dX5_counts_25 ⟨Nat.le_of_ble_eq_true rfl, Nat.le_of_ble_eq_true rfl⟩) (fun ru_2 u_2 H locs pu_2 I => ?_)
        obtain ⟨e1, e2⟩ := pu_2; have e1 := e1.symm; subst e1; have e2 := e2.symm; subst e2
        refine lv_if_eq (tgt := 35) C.1 C.2.1 dX5_counts_28 (by decide) (fun c28 => ?_) (fun c28 => ?_)
        · refine lv_iconst (v := 0) C.1 C.2.1 dX5_counts_35 (by decide) ?_
          exact hv_zret (v := 0) C hr I rfl (⟨rfl, by unfold cnt; first | (simp [c2, c16, c20, c28]; done) | ((repeat' split) <;> first | rfl | contradiction)⟩) dX5_counts_36 (Nat.le_of_ble_eq_true rfl) (Nat.le_of_ble_eq_true rfl)
        · refine lv_iconst (v := 1) C.1 C.2.1 dX5_counts_31 (by decide) ?_
          refine lv_goto (tgt := 36) C.1 C.2.1 dX5_counts_32 (by decide) ?_
          exact hv_zret (v := 1) C hr I rfl (⟨rfl, by unfold cnt; first | (simp [c2, c16, c20, c28]; done) | ((repeat' split) <;> first | rfl | contradiction)⟩) dX5_counts_36 (Nat.le_of_ble_eq_true rfl) (Nat.le_of_ble_eq_true rfl)

set_option maxHeartbeats 8000000 in
set_option maxRecDepth 100000 in
theorem c_X5_partnersTax (l : Launch) (G : hv_G) (h : hv) (sz : Nat) {o : Nat} {ad : Nat → Nat} {dy : Int32} {n d : Nat} {rf : Int64} {th : Int32} {ar : Nat → Nat → Int32} (hM : isM G h o ad dy n d rf th ar) (D : Nat) (hD : D < 40) (j : Nat) (hj : j < 20) (q0 q1 : Int32) (hn : n ≤ 20) : hv_Mi l yX5_partnersTax wsX5_partnersTax 2 80 0 0 G h sz [.ref o, .int (nI D), .int (nI j), .int q0, .int q1] (fun r u => u = h ∧ r = pTx dy n (ar 7) (ar 12) (ar 15) (ar 17) (ar 18) D j q0 q1) := by
  have wX5 : ∀ w ∈ wsX50, w ∈ wsX5_partnersTax := by decide +kernel
  refine hv_enter (y := yX5_partnersTax) (avs := [.ref o, .int (nI D), .int (nI j), .int q0, .int q1]) (maxL := 17) (Qf := fun sz => va_Qi (fun r u => u = h ∧ r = pTx dy n (ar 7) (ar 12) (ar 15) (ar 17) (ar 18) D j q0 q1) (hv_Bq G h sz) (hv_A h sz)) (by decide) rfl rfl (Nat.le_of_ble_eq_true rfl) ?_
  intro p e s m below meth c hr hnm C I ls hl
  have hl : lv_has ls 17 [(0, .ref o), (1, .int (nI D)), (2, .int (nI j)), (3, .int q0), (4, .int q1)] := hl
  refine lv_bipush (v := 20) C.1 C.2.1 dX5_partnersTax_0 (by decide) ?_
  refine lv_bipush (v := 20) C.1 C.2.1 dX5_partnersTax_2 (by decide) ?_
  refine lv_iload_n C.1 C.2.1 dX5_partnersTax_4 rfl (lv_at hl 1 rfl) ?_
  refine lv_imul C.1 C.2.1 dX5_partnersTax_5 ?_
  refine lv_iload_n C.1 C.2.1 dX5_partnersTax_6 rfl (lv_at hl 2 rfl) ?_
  refine lv_iadd C.1 C.2.1 dX5_partnersTax_7 ?_
  refine lv_imul C.1 C.2.1 dX5_partnersTax_8 ?_
  refine lv_topi (fun z_1 ez_1 => ?_)
  have ez_1 : z_1 = nI (20 * (20 * D + j)) := by rw [ez_1]; rw [ixN, ixM]
  subst ez_1
  refine lv_istore (lv' := [(5, .int (nI (20 * (20 * D + j)))), (0, .ref o), (1, .int (nI D)), (2, .int (nI j)), (3, .int q0), (4, .int q1)]) C.1 C.2.1 dX5_partnersTax_9 hl (by decide) rfl (fun ls hl => ?_)
  refine lv_aload_n C.1 C.2.1 dX5_partnersTax_11 rfl (lv_at hl 1 rfl) ?_
  refine hv_get (ci := 6) (Cn := RX5) (T := TX5) (N := 21) (ref := "DividendDeskModel") (v := .ref (ad 12)) C I hM.1 wX5 rfl 12 (by decide) (by decide +kernel) (fun _ h9 => h9) rfl dX5_partnersTax_12 ?_
  refine lv_bipush (v := 20) C.1 C.2.1 dX5_partnersTax_15 (by decide) ?_
  refine lv_iload_n C.1 C.2.1 dX5_partnersTax_17 rfl (lv_at hl 2 rfl) ?_
  refine lv_imul C.1 C.2.1 dX5_partnersTax_18 ?_
  refine lv_iload_n C.1 C.2.1 dX5_partnersTax_19 rfl (lv_at hl 3 rfl) ?_
  refine lv_iadd C.1 C.2.1 dX5_partnersTax_20 ?_
  refine lv_topi (fun z_2 ez_2 => ?_)
  have ez_2 : z_2 = nI (20 * D + j) := by rw [ez_2]; exact ixN D j
  subst ez_2
  refine hv_ialdN (n := 800) (f := ar 12) C I (isM_a hM 12 rfl) (show 20 * D + j < 800 by omega) (by decide) dX5_partnersTax_21 ?_
  refine lv_i2l C.1 C.2.1 dX5_partnersTax_22 rfl ?_
  refine lv_lstore (lv' := [(6, .long (((ar 12) (20 * D + j)).toInt64)), (5, .int (nI (20 * (20 * D + j)))), (0, .ref o), (1, .int (nI D)), (2, .int (nI j)), (3, .int q0), (4, .int q1)]) C.1 C.2.1 dX5_partnersTax_23 hl (by decide) rfl (fun ls hl => ?_)
  refine lv_iconst (v := 0) C.1 C.2.1 dX5_partnersTax_25 (by decide) ?_
  refine lv_istore (lv' := [(8, .int 0), (6, .long (((ar 12) (20 * D + j)).toInt64)), (5, .int (nI (20 * (20 * D + j)))), (0, .ref o), (1, .int (nI D)), (2, .int (nI j)), (3, .int q0), (4, .int q1)]) C.1 C.2.1 dX5_partnersTax_26 hl (by decide) rfl (fun ls hl => ?_)
  refine lv_iconst (v := (-1)) C.1 C.2.1 dX5_partnersTax_28 (by decide) ?_
  refine lv_istore (lv' := [(9, .int (-1)), (8, .int 0), (6, .long (((ar 12) (20 * D + j)).toInt64)), (5, .int (nI (20 * (20 * D + j)))), (0, .ref o), (1, .int (nI D)), (2, .int (nI j)), (3, .int q0), (4, .int q1)]) C.1 C.2.1 dX5_partnersTax_29 hl (by decide) rfl (fun ls hl => ?_)
  refine lv_bipush (v := 19) C.1 C.2.1 dX5_partnersTax_31 (by decide) ?_
  refine lv_topi (fun z_3 ez_3 => ?_)
  have ez_3 : z_3 = nI (20 - 0) - 1 := by rw [ez_3]; decide
  subst ez_3
  refine lv_istore (lv' := [(10, .int (nI (20 - 0) - 1)), (9, .int (-1)), (8, .int 0), (6, .long (((ar 12) (20 * D + j)).toInt64)), (5, .int (nI (20 * (20 * D + j)))), (0, .ref o), (1, .int (nI D)), (2, .int (nI j)), (3, .int q0), (4, .int q1)]) C.1 C.2.1 dX5_partnersTax_33 hl (by decide) rfl (fun ls hl => ?_)
  have loop : ∀ (k9 i : Nat) , i ≤ 20 → 20 + 1 ≤ i + k9 → ∀ (H : Heap) (locs : List Loc), hv_I G h s h H locs → ∀ ls : Array Slot, lv_has ls 17 [(10, .int (nI (20 - i) - 1)), (9, .int (low (ptF (ar 18) D j) i)), (8, .int (dsum (ptF (ar 18) D j) i)), (6, .long (((ar 12) (20 * D + j)).toInt64)), (5, .int (nI (20 * (20 * D + j)))), (0, .ref o), (1, .int (nI D)), (2, .int (nI j)), (3, .int q0), (4, .int q1)] → W p l e (hv_rm 2 0 0 80) s m (([.ref o, .int (nI D), .int (nI j), .int q0, .int q1] : List Value).toArray) below meth c H locs 0 0 (MQ below (va_Qi (fun r u => u = h ∧ r = pTx dy n (ar 7) (ar 12) (ar 15) (ar 17) (ar 18) D j q0 q1) (hv_Bq G h s.heap.size) (hv_A h s.heap.size)) (([.ref o, .int (nI D), .int (nI j), .int q0, .int q1] : List Value).toArray) s 0 0 (hv_A h s.heap.size)) (F0 m 35 ls []) := by
    intro k9
    induction k9 with
    | zero => intro i hi hin; exact absurd hin (by omega)
    | succ k9 ih =>
      intro i hi hin H locs I ls hl
      refine lv_iload C.1 C.2.1 dX5_partnersTax_35 (lv_at hl 0 rfl) ?_
      refine lv_if_lt (tgt := 83) C.1 C.2.1 dX5_partnersTax_37 (by decide) (fun c37 => ?_) (fun c37 => ?_)
      · have hi37 : i = 20 := dix1 hi c37
        subst hi37
        refine lv_iload C.1 C.2.1 dX5_partnersTax_83 (lv_at hl 2 rfl) ?_
        refine lv_if_ne (tgt := 96) C.1 C.2.1 dX5_partnersTax_85 (by decide) (fun c85 => ?_) (fun c85 => ?_)
        · refine lv_lload C.1 C.2.1 dX5_partnersTax_96 (lv_at hl 3 rfl) ?_
          refine lv_lstore (lv' := [(10, .long (((ar 12) (20 * D + j)).toInt64)), (9, .int (low (ptF (ar 18) D j) 20)), (8, .int (dsum (ptF (ar 18) D j) 20)), (6, .long (((ar 12) (20 * D + j)).toInt64)), (5, .int (nI (20 * (20 * D + j)))), (0, .ref o), (1, .int (nI D)), (2, .int (nI j)), (3, .int q0), (4, .int q1)]) C.1 C.2.1 dX5_partnersTax_98 hl (by decide) rfl (fun ls hl => ?_)
          refine lv_iconst (v := 0) C.1 C.2.1 dX5_partnersTax_100 (by decide) ?_
          refine lv_istore (lv' := [(12, .int 0), (10, .long (((ar 12) (20 * D + j)).toInt64)), (9, .int (low (ptF (ar 18) D j) 20)), (8, .int (dsum (ptF (ar 18) D j) 20)), (6, .long (((ar 12) (20 * D + j)).toInt64)), (5, .int (nI (20 * (20 * D + j)))), (0, .ref o), (1, .int (nI D)), (2, .int (nI j)), (3, .int q0), (4, .int q1)]) C.1 C.2.1 dX5_partnersTax_101 hl (by decide) rfl (fun ls hl => ?_)
          have loop : ∀ (k9 i : Nat) , i ≤ 20 → 20 + 1 ≤ i + k9 → ∀ (H : Heap) (locs : List Loc), hv_I G h s h H locs → ∀ ls : Array Slot, lv_has ls 17 [(12, .int (nI i)), (10, .long (lft ((ar 12 (20 * D + j)).toInt64) (ptF (ar 18) D j) (dsum (ptF (ar 18) D j) 20) i)), (9, .int (low (ptF (ar 18) D j) 20)), (8, .int (dsum (ptF (ar 18) D j) 20)), (6, .long (((ar 12) (20 * D + j)).toInt64)), (5, .int (nI (20 * (20 * D + j)))), (0, .ref o), (1, .int (nI D)), (2, .int (nI j)), (3, .int q0), (4, .int q1)] → W p l e (hv_rm 2 0 0 80) s m (([.ref o, .int (nI D), .int (nI j), .int q0, .int q1] : List Value).toArray) below meth c H locs 0 0 (MQ below (va_Qi (fun r u => u = h ∧ r = pTx dy n (ar 7) (ar 12) (ar 15) (ar 17) (ar 18) D j q0 q1) (hv_Bq G h s.heap.size) (hv_A h s.heap.size)) (([.ref o, .int (nI D), .int (nI j), .int q0, .int q1] : List Value).toArray) s 0 0 (hv_A h s.heap.size)) (F0 m 103 ls []) := by
            intro k9
            induction k9 with
            | zero => intro i hi hin; exact absurd hin (by omega)
            | succ k9 ih =>
              intro i hi hin H locs I ls hl
              refine lv_iload C.1 C.2.1 dX5_partnersTax_103 (lv_at hl 0 rfl) ?_
              refine lv_bipush (v := 20) C.1 C.2.1 dX5_partnersTax_105 (by decide) ?_
              refine lv_icmp_ge (tgt := 139) C.1 C.2.1 dX5_partnersTax_107 (by decide) (fun c107 => ?_) (fun c107 => ?_)
              · have hi107 : i = 20 := Nat.le_antisymm hi (hv_leN (n := 20) (by decide) (by omega) c107)
                subst hi107
                refine lv_iconst (v := 0) C.1 C.2.1 dX5_partnersTax_139 (by decide) ?_
                refine lv_istore (lv' := [(12, .int 0), (10, .long (lft ((ar 12 (20 * D + j)).toInt64) (ptF (ar 18) D j) (dsum (ptF (ar 18) D j) 20) 20)), (9, .int (low (ptF (ar 18) D j) 20)), (8, .int (dsum (ptF (ar 18) D j) 20)), (6, .long (((ar 12) (20 * D + j)).toInt64)), (5, .int (nI (20 * (20 * D + j)))), (0, .ref o), (1, .int (nI D)), (2, .int (nI j)), (3, .int q0), (4, .int q1)]) C.1 C.2.1 dX5_partnersTax_140 hl (by decide) rfl (fun ls hl => ?_)
                refine lv_iconst (v := 0) C.1 C.2.1 dX5_partnersTax_142 (by decide) ?_
                refine lv_istore (lv' := [(13, .int 0), (12, .int 0), (10, .long (lft ((ar 12 (20 * D + j)).toInt64) (ptF (ar 18) D j) (dsum (ptF (ar 18) D j) 20) 20)), (9, .int (low (ptF (ar 18) D j) 20)), (8, .int (dsum (ptF (ar 18) D j) 20)), (6, .long (((ar 12) (20 * D + j)).toInt64)), (5, .int (nI (20 * (20 * D + j)))), (0, .ref o), (1, .int (nI D)), (2, .int (nI j)), (3, .int q0), (4, .int q1)]) C.1 C.2.1 dX5_partnersTax_143 hl (by decide) rfl (fun ls hl => ?_)
                have loop : ∀ (k9 i : Nat) , i ≤ n → n + 1 ≤ i + k9 → ∀ (H : Heap) (locs : List Loc), hv_I G h s h H locs → ∀ ls : Array Slot, lv_has ls 17 [(13, .int (nI i)), (12, .int (txS ((ar 12 (20 * D + j)).toInt64) (ptF (ar 18) D j) (dsum (ptF (ar 18) D j) 20) (low (ptF (ar 18) D j) 20) (ar 15) (trF dy (ar 7) (ar 17) D j q0 q1) (20 * D) i)), (10, .long (lft ((ar 12 (20 * D + j)).toInt64) (ptF (ar 18) D j) (dsum (ptF (ar 18) D j) 20) 20)), (9, .int (low (ptF (ar 18) D j) 20)), (8, .int (dsum (ptF (ar 18) D j) 20)), (6, .long (((ar 12) (20 * D + j)).toInt64)), (5, .int (nI (20 * (20 * D + j)))), (0, .ref o), (1, .int (nI D)), (2, .int (nI j)), (3, .int q0), (4, .int q1)] → W p l e (hv_rm 2 0 0 80) s m (([.ref o, .int (nI D), .int (nI j), .int q0, .int q1] : List Value).toArray) below meth c H locs 0 0 (MQ below (va_Qi (fun r u => u = h ∧ r = pTx dy n (ar 7) (ar 12) (ar 15) (ar 17) (ar 18) D j q0 q1) (hv_Bq G h s.heap.size) (hv_A h s.heap.size)) (([.ref o, .int (nI D), .int (nI j), .int q0, .int q1] : List Value).toArray) s 0 0 (hv_A h s.heap.size)) (F0 m 145 ls []) := by
                  intro k9
                  induction k9 with
                  | zero => intro i hi hin; exact absurd hin (by omega)
                  | succ k9 ih =>
                    intro i hi hin H locs I ls hl
                    refine lv_iload C.1 C.2.1 dX5_partnersTax_145 (lv_at hl 0 rfl) ?_
                    refine lv_aload_n C.1 C.2.1 dX5_partnersTax_147 rfl (lv_at hl 7 rfl) ?_
                    refine hv_get (ci := 6) (Cn := RX5) (T := TX5) (N := 21) (ref := "DividendDeskModel") (v := .int (nI n)) C I hM.1 wX5 rfl 3 (by decide) (by decide +kernel) (fun _ h9 => h9) rfl dX5_partnersTax_148 ?_
                    refine lv_icmp_ge (tgt := 275) C.1 C.2.1 dX5_partnersTax_151 (by decide) (fun c151 => ?_) (fun c151 => ?_)
                    · have hi151 : i = n := Nat.le_antisymm hi (hv_leN (by omega) (by omega) c151)
                      refine lv_iload C.1 C.2.1 dX5_partnersTax_275 (lv_at hl 1 rfl) ?_
                      exact hv_iret (v := (txS ((ar 12 (20 * D + j)).toInt64) (ptF (ar 18) D j) (dsum (ptF (ar 18) D j) 20) (low (ptF (ar 18) D j) 20) (ar 15) (trF dy (ar 7) (ar 17) D j q0 q1) (20 * D) i)) C hr I (⟨rfl, by unfold pTx; rw [if_neg c85]; rw [hi151]⟩) dX5_partnersTax_277 (Nat.le_of_ble_eq_true rfl) (Nat.le_of_ble_eq_true rfl)
                    · have hi151 : i < n := hv_ltN (by omega) (by omega) c151
                      refine lv_lload C.1 C.2.1 dX5_partnersTax_154 (lv_at hl 5 rfl) ?_
                      refine lv_aload_n C.1 C.2.1 dX5_partnersTax_156 rfl (lv_at hl 7 rfl) ?_
                      refine hv_get (ci := 6) (Cn := RX5) (T := TX5) (N := 21) (ref := "DividendDeskModel") (v := .ref (ad 18)) C I hM.1 wX5 rfl 18 (by decide) (by decide +kernel) (fun _ h9 => h9) rfl dX5_partnersTax_157 ?_
                      refine lv_iload C.1 C.2.1 dX5_partnersTax_160 (lv_at hl 6 rfl) ?_
                      refine lv_iload C.1 C.2.1 dX5_partnersTax_162 (lv_at hl 0 rfl) ?_
                      refine lv_iadd C.1 C.2.1 dX5_partnersTax_164 ?_
                      refine lv_topi (fun z_4 ez_4 => ?_)
                      have ez_4 : z_4 = nI (20 * (20 * D + j) + i) := by rw [ez_4]; rw [nI_add]
                      subst ez_4
                      refine hv_ialdN (n := 16000) (f := ar 18) C I (isM_a hM 18 rfl) (show 20 * (20 * D + j) + i < 16000 by omega) (by decide) dX5_partnersTax_165 ?_
                      refine lv_i2l C.1 C.2.1 dX5_partnersTax_166 rfl ?_
                      refine lv_lmul C.1 C.2.1 dX5_partnersTax_167 ?_
                      refine lv_iload C.1 C.2.1 dX5_partnersTax_168 (lv_at hl 4 rfl) ?_
                      refine lv_i2l C.1 C.2.1 dX5_partnersTax_170 rfl ?_
                      refine lv_ldiv C.1 C.2.1 dX5_partnersTax_171 (i64_ne0 c85) ?_
                      have J185 : ∀ (z_5 : Int64), z_5 = (lfA ((ar 12 (20 * D + j)).toInt64) (ptF (ar 18) D j) (dsum (ptF (ar 18) D j) 20) (low (ptF (ar 18) D j) 20) i) → ∀ (H : Heap) (locs : List Loc), hv_I G h s h H locs → W p l e (hv_rm 2 0 0 80) s m (([.ref o, .int (nI D), .int (nI j), .int q0, .int q1] : List Value).toArray) below meth c H locs 0 0 (MQ below (va_Qi (fun r u => u = h ∧ r = pTx dy n (ar 7) (ar 12) (ar 15) (ar 17) (ar 18) D j q0 q1) (hv_Bq G h s.heap.size) (hv_A h s.heap.size)) (([.ref o, .int (nI D), .int (nI j), .int q0, .int q1] : List Value).toArray) s 0 0 (hv_A h s.heap.size)) (F0 m 185 ls [.long z_5, .long (((((ar 12) (20 * D + j)).toInt64) * (((ar 18) (20 * (20 * D + j) + i)).toInt64)) / ((dsum (ptF (ar 18) D j) 20).toInt64))]) := by
                        intro z_5 ez_5 H locs I; subst ez_5
                        refine lv_ladd C.1 C.2.1 dX5_partnersTax_185 ?_
                        refine lv_lstore (lv' := [(14, .long ((((((ar 12) (20 * D + j)).toInt64) * (((ar 18) (20 * (20 * D + j) + i)).toInt64)) / ((dsum (ptF (ar 18) D j) 20).toInt64)) + (lfA ((ar 12 (20 * D + j)).toInt64) (ptF (ar 18) D j) (dsum (ptF (ar 18) D j) 20) (low (ptF (ar 18) D j) 20) i))), (13, .int (nI i)), (12, .int (txS ((ar 12 (20 * D + j)).toInt64) (ptF (ar 18) D j) (dsum (ptF (ar 18) D j) 20) (low (ptF (ar 18) D j) 20) (ar 15) (trF dy (ar 7) (ar 17) D j q0 q1) (20 * D) i)), (10, .long (lft ((ar 12 (20 * D + j)).toInt64) (ptF (ar 18) D j) (dsum (ptF (ar 18) D j) 20) 20)), (9, .int (low (ptF (ar 18) D j) 20)), (8, .int (dsum (ptF (ar 18) D j) 20)), (6, .long (((ar 12) (20 * D + j)).toInt64)), (5, .int (nI (20 * (20 * D + j)))), (0, .ref o), (1, .int (nI D)), (2, .int (nI j)), (3, .int q0), (4, .int q1)]) C.1 C.2.1 dX5_partnersTax_186 hl (by decide) rfl (fun ls hl => ?_)
                        have J218 : ∀ (z_6 : Int32), z_6 = ((trF dy (ar 7) (ar 17) D j q0 q1) i) → ∀ (H : Heap) (locs : List Loc), hv_I G h s h H locs → W p l e (hv_rm 2 0 0 80) s m (([.ref o, .int (nI D), .int (nI j), .int q0, .int q1] : List Value).toArray) below meth c H locs 0 0 (MQ below (va_Qi (fun r u => u = h ∧ r = pTx dy n (ar 7) (ar 12) (ar 15) (ar 17) (ar 18) D j q0 q1) (hv_Bq G h s.heap.size) (hv_A h s.heap.size)) (([.ref o, .int (nI D), .int (nI j), .int q0, .int q1] : List Value).toArray) s 0 0 (hv_A h s.heap.size)) (F0 m 218 ls [.int z_6]) := by
                          intro z_6 ez_6 H locs I; subst ez_6
                          refine lv_istore (lv' := [(16, .int ((trF dy (ar 7) (ar 17) D j q0 q1) i)), (14, .long ((((((ar 12) (20 * D + j)).toInt64) * (((ar 18) (20 * (20 * D + j) + i)).toInt64)) / ((dsum (ptF (ar 18) D j) 20).toInt64)) + (lfA ((ar 12 (20 * D + j)).toInt64) (ptF (ar 18) D j) (dsum (ptF (ar 18) D j) 20) (low (ptF (ar 18) D j) 20) i))), (13, .int (nI i)), (12, .int (txS ((ar 12 (20 * D + j)).toInt64) (ptF (ar 18) D j) (dsum (ptF (ar 18) D j) 20) (low (ptF (ar 18) D j) 20) (ar 15) (trF dy (ar 7) (ar 17) D j q0 q1) (20 * D) i)), (10, .long (lft ((ar 12 (20 * D + j)).toInt64) (ptF (ar 18) D j) (dsum (ptF (ar 18) D j) 20) 20)), (9, .int (low (ptF (ar 18) D j) 20)), (8, .int (dsum (ptF (ar 18) D j) 20)), (6, .long (((ar 12) (20 * D + j)).toInt64)), (5, .int (nI (20 * (20 * D + j)))), (0, .ref o), (1, .int (nI D)), (2, .int (nI j)), (3, .int q0), (4, .int q1)]) C.1 C.2.1 dX5_partnersTax_218 hl (by decide) rfl (fun ls hl => ?_)
                          refine lv_iload C.1 C.2.1 dX5_partnersTax_220 (lv_at hl 3 rfl) ?_
                          have J266 : ∀ (z_7 : Int32), z_7 = (txP ((ar 12 (20 * D + j)).toInt64) (ptF (ar 18) D j) (dsum (ptF (ar 18) D j) 20) (low (ptF (ar 18) D j) 20) (ar 15) (trF dy (ar 7) (ar 17) D j q0 q1) (20 * D) i) → ∀ (H : Heap) (locs : List Loc), hv_I G h s h H locs → W p l e (hv_rm 2 0 0 80) s m (([.ref o, .int (nI D), .int (nI j), .int q0, .int q1] : List Value).toArray) below meth c H locs 0 0 (MQ below (va_Qi (fun r u => u = h ∧ r = pTx dy n (ar 7) (ar 12) (ar 15) (ar 17) (ar 18) D j q0 q1) (hv_Bq G h s.heap.size) (hv_A h s.heap.size)) (([.ref o, .int (nI D), .int (nI j), .int q0, .int q1] : List Value).toArray) s 0 0 (hv_A h s.heap.size)) (F0 m 266 ls [.int z_7, .int (txS ((ar 12 (20 * D + j)).toInt64) (ptF (ar 18) D j) (dsum (ptF (ar 18) D j) 20) (low (ptF (ar 18) D j) 20) (ar 15) (trF dy (ar 7) (ar 17) D j q0 q1) (20 * D) i)]) := by
                            intro z_7 ez_7 H locs I; subst ez_7
                            refine lv_iadd C.1 C.2.1 dX5_partnersTax_266 ?_
                            refine lv_topi (fun z_8 ez_8 => ?_)
                            have ez_8 : z_8 = txS ((ar 12 (20 * D + j)).toInt64) (ptF (ar 18) D j) (dsum (ptF (ar 18) D j) 20) (low (ptF (ar 18) D j) 20) (ar 15) (trF dy (ar 7) (ar 17) D j q0 q1) (20 * D) (i + 1) := by rw [ez_8]; rfl
                            subst ez_8
                            refine lv_istore (lv' := [(12, .int (txS ((ar 12 (20 * D + j)).toInt64) (ptF (ar 18) D j) (dsum (ptF (ar 18) D j) 20) (low (ptF (ar 18) D j) 20) (ar 15) (trF dy (ar 7) (ar 17) D j q0 q1) (20 * D) (i + 1))), (16, .int ((trF dy (ar 7) (ar 17) D j q0 q1) i)), (14, .long ((((((ar 12) (20 * D + j)).toInt64) * (((ar 18) (20 * (20 * D + j) + i)).toInt64)) / ((dsum (ptF (ar 18) D j) 20).toInt64)) + (lfA ((ar 12 (20 * D + j)).toInt64) (ptF (ar 18) D j) (dsum (ptF (ar 18) D j) 20) (low (ptF (ar 18) D j) 20) i))), (13, .int (nI i)), (10, .long (lft ((ar 12 (20 * D + j)).toInt64) (ptF (ar 18) D j) (dsum (ptF (ar 18) D j) 20) 20)), (9, .int (low (ptF (ar 18) D j) 20)), (8, .int (dsum (ptF (ar 18) D j) 20)), (6, .long (((ar 12) (20 * D + j)).toInt64)), (5, .int (nI (20 * (20 * D + j)))), (0, .ref o), (1, .int (nI D)), (2, .int (nI j)), (3, .int q0), (4, .int q1)]) C.1 C.2.1 dX5_partnersTax_267 hl (by decide) rfl (fun ls hl => ?_)
                            refine lv_iinc (v := nI (i + 1)) (lv' := [(13, .int (nI (i + 1))), (12, .int (txS ((ar 12 (20 * D + j)).toInt64) (ptF (ar 18) D j) (dsum (ptF (ar 18) D j) 20) (low (ptF (ar 18) D j) 20) (ar 15) (trF dy (ar 7) (ar 17) D j q0 q1) (20 * D) (i + 1))), (16, .int ((trF dy (ar 7) (ar 17) D j q0 q1) i)), (14, .long ((((((ar 12) (20 * D + j)).toInt64) * (((ar 18) (20 * (20 * D + j) + i)).toInt64)) / ((dsum (ptF (ar 18) D j) 20).toInt64)) + (lfA ((ar 12 (20 * D + j)).toInt64) (ptF (ar 18) D j) (dsum (ptF (ar 18) D j) 20) (low (ptF (ar 18) D j) 20) i))), (10, .long (lft ((ar 12 (20 * D + j)).toInt64) (ptF (ar 18) D j) (dsum (ptF (ar 18) D j) 20) 20)), (9, .int (low (ptF (ar 18) D j) 20)), (8, .int (dsum (ptF (ar 18) D j) 20)), (6, .long (((ar 12) (20 * D + j)).toInt64)), (5, .int (nI (20 * (20 * D + j)))), (0, .ref o), (1, .int (nI D)), (2, .int (nI j)), (3, .int q0), (4, .int q1)]) C.1 C.2.1 dX5_partnersTax_269 hl (k := 3) rfl (nI_1 i) (by decide) rfl (fun ls hl => ?_)
                            refine lv_goto (tgt := 145) C.1 C.2.1 dX5_partnersTax_272 (by decide) ?_
                            exact ih (i + 1) (by omega) (by omega)  _ _ I ls (lv_sub hl [0, 1, 4, 5, 6, 7, 8, 9, 10, 11, 12, 13] rfl)
                          refine lv_aload_n C.1 C.2.1 dX5_partnersTax_222 rfl (lv_at hl 9 rfl) ?_
                          refine hv_get (ci := 6) (Cn := RX5) (T := TX5) (N := 21) (ref := "DividendDeskModel") (v := .ref (ad 18)) C I hM.1 wX5 rfl 18 (by decide) (by decide +kernel) (fun _ h9 => h9) rfl dX5_partnersTax_223 ?_
                          refine lv_iload C.1 C.2.1 dX5_partnersTax_226 (lv_at hl 8 rfl) ?_
                          refine lv_iload C.1 C.2.1 dX5_partnersTax_228 (lv_at hl 2 rfl) ?_
                          refine lv_iadd C.1 C.2.1 dX5_partnersTax_230 ?_
                          refine lv_topi (fun z_9 ez_9 => ?_)
                          have ez_9 : z_9 = nI (20 * (20 * D + j) + i) := by rw [ez_9]; rw [nI_add]
                          subst ez_9
                          refine hv_ialdN (n := 16000) (f := ar 18) C I (isM_a hM 18 rfl) (show 20 * (20 * D + j) + i < 16000 by omega) (by decide) dX5_partnersTax_231 ?_
                          refine lv_if_ne (tgt := 239) C.1 C.2.1 dX5_partnersTax_232 (by decide) (fun c232 => ?_) (fun c232 => ?_)
                          · refine lv_lload C.1 C.2.1 dX5_partnersTax_239 (lv_at hl 1 rfl) ?_
                            have J263 : ∀ (z_10 : Int32), z_10 = (if (trF dy (ar 7) (ar 17) D j q0 q1) i = 0 then 30 else ar 15 (20 * D + i)) → ∀ (H : Heap) (locs : List Loc), hv_I G h s h H locs → W p l e (hv_rm 2 0 0 80) s m (([.ref o, .int (nI D), .int (nI j), .int q0, .int q1] : List Value).toArray) below meth c H locs 0 0 (MQ below (va_Qi (fun r u => u = h ∧ r = pTx dy n (ar 7) (ar 12) (ar 15) (ar 17) (ar 18) D j q0 q1) (hv_Bq G h s.heap.size) (hv_A h s.heap.size)) (([.ref o, .int (nI D), .int (nI j), .int q0, .int q1] : List Value).toArray) s 0 0 (hv_A h s.heap.size)) (F0 m 263 ls [.int z_10, .long ((((((ar 12) (20 * D + j)).toInt64) * (((ar 18) (20 * (20 * D + j) + i)).toInt64)) / ((dsum (ptF (ar 18) D j) 20).toInt64)) + (lfA ((ar 12 (20 * D + j)).toInt64) (ptF (ar 18) D j) (dsum (ptF (ar 18) D j) 20) (low (ptF (ar 18) D j) 20) i)), .int (txS ((ar 12 (20 * D + j)).toInt64) (ptF (ar 18) D j) (dsum (ptF (ar 18) D j) 20) (low (ptF (ar 18) D j) 20) (ar 15) (trF dy (ar 7) (ar 17) D j q0 q1) (20 * D) i)]) := by
                              intro z_10 ez_10 H locs I; subst ez_10
                              refine hv_ki I (va_runS (As := [.long ((((((ar 12) (20 * D + j)).toInt64) * (((ar 18) (20 * (20 * D + j) + i)).toInt64)) / ((dsum (ptF (ar 18) D j) 20).toInt64)) + (lfA ((ar 12 (20 * D + j)).toInt64) (ptF (ar 18) D j) (dsum (ptF (ar 18) D j) 20) (low (ptF (ar 18) D j) 20) i)), .int (if (trF dy (ar 7) (ar 17) D j q0 q1) i = 0 then 30 else ar 15 (20 * D + i))]) (rest := [.int (txS ((ar 12 (20 * D + j)).toInt64) (ptF (ar 18) D j) (dsum (ptF (ar 18) D j) 20) (low (ptF (ar 18) D j) 20) (ar 15) (trF dy (ar 7) (ar 17) D j q0 q1) (20 * D) i)]) C.fix (c_X5_taxOf l G h _ ((((((ar 12) (20 * D + j)).toInt64) * (((ar 18) (20 * (20 * D + j) + i)).toInt64)) / ((dsum (ptF (ar 18) D j) 20).toInt64)) + (lfA ((ar 12 (20 * D + j)).toInt64) (ptF (ar 18) D j) (dsum (ptF (ar 18) D j) 20) (low (ptF (ar 18) D j) 20) i)) (if (trF dy (ar 7) (ar 17) D j q0 q1) i = 0 then 30 else ar 15 (20 * D + i))) (va_cwS 2 C.2.2.2.2.1 gX5_partnersTax_X5_taxOf rfl rfl rfl (by decide +kernel) ⟨Nat.le_of_ble_eq_true rfl, Nat.le_of_ble_eq_true rfl⟩) (hv_preS C I) rfl rfl hl.1 rfl (lv_room (Nat.le_of_ble_eq_true rfl)) dX5_partnersTax_263 ⟨Nat.le_of_ble_eq_true rfl, Nat.le_of_ble_eq_true rfl⟩) (fun ru_11 u_11 H locs pu_11 I => ?_)
                              obtain ⟨e1, e2⟩ := pu_11; have e1 := e1.symm; subst e1; have e2 := e2.symm; subst e2
                              exact J266 _ (by unfold txP; exact (if_neg (show ¬ (ptF (ar 18) D j) i = 0 from c232)).symm) _ _ I
                            refine lv_iload C.1 C.2.1 dX5_partnersTax_241 (lv_at hl 0 rfl) ?_
                            refine lv_if_eq (tgt := 261) C.1 C.2.1 dX5_partnersTax_243 (by decide) (fun c243 => ?_) (fun c243 => ?_)
                            · refine lv_bipush (v := 30) C.1 C.2.1 dX5_partnersTax_261 (by decide) ?_
                              exact J263 _ (by first | (simp [c243]; done) | ((repeat' split) <;> first | rfl | contradiction)) _ _ I
                            · refine lv_aload_n C.1 C.2.1 dX5_partnersTax_246 rfl (lv_at hl 9 rfl) ?_
                              refine hv_get (ci := 6) (Cn := RX5) (T := TX5) (N := 21) (ref := "DividendDeskModel") (v := .ref (ad 15)) C I hM.1 wX5 rfl 15 (by decide) (by decide +kernel) (fun _ h9 => h9) rfl dX5_partnersTax_247 ?_
                              refine lv_bipush (v := 20) C.1 C.2.1 dX5_partnersTax_250 (by decide) ?_
                              refine lv_iload_n C.1 C.2.1 dX5_partnersTax_252 rfl (lv_at hl 10 rfl) ?_
                              refine lv_imul C.1 C.2.1 dX5_partnersTax_253 ?_
                              refine lv_iload C.1 C.2.1 dX5_partnersTax_254 (lv_at hl 2 rfl) ?_
                              refine lv_iadd C.1 C.2.1 dX5_partnersTax_256 ?_
                              refine lv_topi (fun z_12 ez_12 => ?_)
                              have ez_12 : z_12 = nI (20 * D + i) := by rw [ez_12]; exact ixN D i
                              subst ez_12
                              refine hv_ialdN (n := 800) (f := ar 15) C I (isM_a hM 15 rfl) (show 20 * D + i < 800 by omega) (by decide) dX5_partnersTax_257 ?_
                              refine lv_goto (tgt := 263) C.1 C.2.1 dX5_partnersTax_258 (by decide) ?_
                              exact J263 _ (by first | (simp [c243]; done) | ((repeat' split) <;> first | rfl | contradiction)) _ _ I
                          · refine lv_iconst (v := 0) C.1 C.2.1 dX5_partnersTax_235 (by decide) ?_
                            refine lv_goto (tgt := 266) C.1 C.2.1 dX5_partnersTax_236 (by decide) ?_
                            exact J266 _ (by unfold txP; exact (if_pos (show (ptF (ar 18) D j) i = 0 from c232)).symm) _ _ I
                        refine lv_aload_n C.1 C.2.1 dX5_partnersTax_188 rfl (lv_at hl 8 rfl) ?_
                        refine lv_iload_n C.1 C.2.1 dX5_partnersTax_189 rfl (lv_at hl 9 rfl) ?_
                        refine lv_iload_n C.1 C.2.1 dX5_partnersTax_190 rfl (lv_at hl 10 rfl) ?_
                        refine lv_iload_n C.1 C.2.1 dX5_partnersTax_191 rfl (lv_at hl 11 rfl) ?_
                        refine lv_iload C.1 C.2.1 dX5_partnersTax_192 (lv_at hl 12 rfl) ?_
                        refine hv_ki I (va_runV (As := [.int (nI D), .int (nI j), .int q0, .int q1]) (rest := []) C.fix (c_X5_counts l G h _ hM D hD j hj q0 q1) (cwV 4 C.2.2.2.2.1 gX5_partnersTax_X5_counts rfl rfl rfl (by decide +kernel) ⟨Nat.le_of_ble_eq_true rfl, Nat.le_of_ble_eq_true rfl⟩) (hv_preV C I hM.1 (r := (RX5, TX5, 21)) rfl) rfl rfl hl.1 rfl (lv_room (Nat.le_of_ble_eq_true rfl)) dX5_partnersTax_194 ⟨Nat.le_of_ble_eq_true rfl, Nat.le_of_ble_eq_true rfl⟩) (fun ru_13 u_13 H locs pu_13 I => ?_)
                        obtain ⟨e1, e2⟩ := pu_13; have e1 := e1.symm; subst e1; have e2 := e2.symm; subst e2
                        refine lv_if_eq (tgt := 217) C.1 C.2.1 dX5_partnersTax_197 (by decide) (fun c197 => ?_) (fun c197 => ?_)
                        · refine lv_iconst (v := 0) C.1 C.2.1 dX5_partnersTax_217 (by decide) ?_
                          exact J218 _ (by unfold trF; first | (simp [c197]; done) | ((repeat' split) <;> first | rfl | contradiction)) _ _ I
                        · refine lv_aload_n C.1 C.2.1 dX5_partnersTax_200 rfl (lv_at hl 8 rfl) ?_
                          refine lv_iload_n C.1 C.2.1 dX5_partnersTax_201 rfl (lv_at hl 9 rfl) ?_
                          refine lv_iload C.1 C.2.1 dX5_partnersTax_202 (lv_at hl 1 rfl) ?_
                          refine lv_iload_n C.1 C.2.1 dX5_partnersTax_204 rfl (lv_at hl 11 rfl) ?_
                          refine lv_iload C.1 C.2.1 dX5_partnersTax_205 (lv_at hl 12 rfl) ?_
                          refine hv_ki I (va_runV (As := [.int (nI D), .int (nI i), .int q0, .int q1]) (rest := []) C.fix (c_X5_counts l G h _ hM D hD i (show i < 20 by omega) q0 q1) (cwV 4 C.2.2.2.2.1 gX5_partnersTax_X5_counts rfl rfl rfl (by decide +kernel) ⟨Nat.le_of_ble_eq_true rfl, Nat.le_of_ble_eq_true rfl⟩) (hv_preV C I hM.1 (r := (RX5, TX5, 21)) rfl) rfl rfl hl.1 rfl (lv_room (Nat.le_of_ble_eq_true rfl)) dX5_partnersTax_207 ⟨Nat.le_of_ble_eq_true rfl, Nat.le_of_ble_eq_true rfl⟩) (fun ru_14 u_14 H locs pu_14 I => ?_)
                          obtain ⟨e1, e2⟩ := pu_14; have e1 := e1.symm; subst e1; have e2 := e2.symm; subst e2
                          refine lv_if_eq (tgt := 217) C.1 C.2.1 dX5_partnersTax_210 (by decide) (fun c210 => ?_) (fun c210 => ?_)
                          · refine lv_iconst (v := 0) C.1 C.2.1 dX5_partnersTax_217 (by decide) ?_
                            exact J218 _ (by unfold trF; first | (simp [c197, c210]; done) | ((repeat' split) <;> first | rfl | contradiction)) _ _ I
                          · refine lv_iconst (v := 1) C.1 C.2.1 dX5_partnersTax_213 (by decide) ?_
                            refine lv_goto (tgt := 218) C.1 C.2.1 dX5_partnersTax_214 (by decide) ?_
                            exact J218 _ (by unfold trF; first | (simp [c197, c210]; done) | ((repeat' split) <;> first | rfl | contradiction)) _ _ I
                      refine lv_iload C.1 C.2.1 dX5_partnersTax_172 (lv_at hl 0 rfl) ?_
                      refine lv_iload C.1 C.2.1 dX5_partnersTax_174 (lv_at hl 3 rfl) ?_
                      refine lv_icmp_ne (tgt := 184) C.1 C.2.1 dX5_partnersTax_176 (by decide) (fun c176 => ?_) (fun c176 => ?_)
                      · refine lv_lconst (v := 0) C.1 C.2.1 dX5_partnersTax_184 (by decide) ?_
                        exact J185 _ (by unfold lfA; first | (simp [c176]; done) | ((repeat' split) <;> first | rfl | contradiction)) _ _ I
                      · refine lv_lload C.1 C.2.1 dX5_partnersTax_179 (lv_at hl 2 rfl) ?_
                        refine lv_goto (tgt := 185) C.1 C.2.1 dX5_partnersTax_181 (by decide) ?_
                        exact J185 _ (by unfold lfA; first | (simp [c176]; done) | ((repeat' split) <;> first | rfl | contradiction)) _ _ I
                exact loop (n + 1) 0 (Nat.zero_le _) (by omega) _ _ I ls (lv_sub hl [0, 1, 2, 3, 4, 5, 6, 7, 8, 9, 10, 11] rfl)
              · have hi107 : i < 20 := hv_ltN (n := 20) (by decide) (by omega) c107
                refine lv_lload C.1 C.2.1 dX5_partnersTax_110 (lv_at hl 1 rfl) ?_
                refine lv_lload C.1 C.2.1 dX5_partnersTax_112 (lv_at hl 4 rfl) ?_
                refine lv_aload_n C.1 C.2.1 dX5_partnersTax_114 rfl (lv_at hl 6 rfl) ?_
                refine hv_get (ci := 6) (Cn := RX5) (T := TX5) (N := 21) (ref := "DividendDeskModel") (v := .ref (ad 18)) C I hM.1 wX5 rfl 18 (by decide) (by decide +kernel) (fun _ h9 => h9) rfl dX5_partnersTax_115 ?_
                refine lv_iload C.1 C.2.1 dX5_partnersTax_118 (lv_at hl 5 rfl) ?_
                refine lv_iload C.1 C.2.1 dX5_partnersTax_120 (lv_at hl 0 rfl) ?_
                refine lv_iadd C.1 C.2.1 dX5_partnersTax_122 ?_
                refine lv_topi (fun z_15 ez_15 => ?_)
                have ez_15 : z_15 = nI (20 * (20 * D + j) + i) := by rw [ez_15]; rw [nI_add]
                subst ez_15
                refine hv_ialdN (n := 16000) (f := ar 18) C I (isM_a hM 18 rfl) (show 20 * (20 * D + j) + i < 16000 by omega) (by decide) dX5_partnersTax_123 ?_
                refine lv_i2l C.1 C.2.1 dX5_partnersTax_124 rfl ?_
                refine lv_lmul C.1 C.2.1 dX5_partnersTax_125 ?_
                refine lv_iload C.1 C.2.1 dX5_partnersTax_126 (lv_at hl 3 rfl) ?_
                refine lv_i2l C.1 C.2.1 dX5_partnersTax_128 rfl ?_
                refine lv_ldiv C.1 C.2.1 dX5_partnersTax_129 (i64_ne0 c85) ?_
                refine lv_lsub C.1 C.2.1 dX5_partnersTax_130 ?_
                refine lv_topl (fun z_16 ez_16 => ?_)
                have ez_16 : z_16 = lft ((ar 12 (20 * D + j)).toInt64) (ptF (ar 18) D j) (dsum (ptF (ar 18) D j) 20) (i + 1) := by rw [ez_16]; rfl
                subst ez_16
                refine lv_lstore (lv' := [(10, .long (lft ((ar 12 (20 * D + j)).toInt64) (ptF (ar 18) D j) (dsum (ptF (ar 18) D j) 20) (i + 1))), (12, .int (nI i)), (9, .int (low (ptF (ar 18) D j) 20)), (8, .int (dsum (ptF (ar 18) D j) 20)), (6, .long (((ar 12) (20 * D + j)).toInt64)), (5, .int (nI (20 * (20 * D + j)))), (0, .ref o), (1, .int (nI D)), (2, .int (nI j)), (3, .int q0), (4, .int q1)]) C.1 C.2.1 dX5_partnersTax_131 hl (by decide) rfl (fun ls hl => ?_)
                refine lv_iinc (v := nI (i + 1)) (lv' := [(12, .int (nI (i + 1))), (10, .long (lft ((ar 12 (20 * D + j)).toInt64) (ptF (ar 18) D j) (dsum (ptF (ar 18) D j) 20) (i + 1))), (9, .int (low (ptF (ar 18) D j) 20)), (8, .int (dsum (ptF (ar 18) D j) 20)), (6, .long (((ar 12) (20 * D + j)).toInt64)), (5, .int (nI (20 * (20 * D + j)))), (0, .ref o), (1, .int (nI D)), (2, .int (nI j)), (3, .int q0), (4, .int q1)]) C.1 C.2.1 dX5_partnersTax_133 hl (k := 1) rfl (nI_1 i) (by decide) rfl (fun ls hl => ?_)
                refine lv_goto (tgt := 103) C.1 C.2.1 dX5_partnersTax_136 (by decide) ?_
                exact ih (i + 1) (by omega) (by omega)  _ _ I ls (lv_sub hl [0, 1, 2, 3, 4, 5, 6, 7, 8, 9, 10] rfl)
          exact loop (20 + 1) 0 (Nat.zero_le _) (by omega) _ _ I ls (lv_sub hl [0, 1, 2, 3, 4, 5, 6, 7, 8, 9, 10] rfl)
        · refine lv_lload C.1 C.2.1 dX5_partnersTax_88 (lv_at hl 3 rfl) ?_
          refine lv_bipush (v := 30) C.1 C.2.1 dX5_partnersTax_90 (by decide) ?_
          refine hv_ki I (va_runS (As := [.long (((ar 12) (20 * D + j)).toInt64), .int 30]) (rest := []) C.fix (c_X5_taxOf l G h _ (((ar 12) (20 * D + j)).toInt64) 30) (va_cwS 2 C.2.2.2.2.1 gX5_partnersTax_X5_taxOf rfl rfl rfl (by decide +kernel) ⟨Nat.le_of_ble_eq_true rfl, Nat.le_of_ble_eq_true rfl⟩) (hv_preS C I) rfl rfl hl.1 rfl (lv_room (Nat.le_of_ble_eq_true rfl)) dX5_partnersTax_92 ⟨Nat.le_of_ble_eq_true rfl, Nat.le_of_ble_eq_true rfl⟩) (fun ru_17 u_17 H locs pu_17 I => ?_)
          obtain ⟨e1, e2⟩ := pu_17; have e1 := e1.symm; subst e1; have e2 := e2.symm; subst e2
          exact hv_iret (v := (taxL (((ar 12) (20 * D + j)).toInt64) 30)) C hr I (⟨rfl, by unfold pTx; rw [if_pos c85]⟩) dX5_partnersTax_95 (Nat.le_of_ble_eq_true rfl) (Nat.le_of_ble_eq_true rfl)
      · have hi37 : i < 20 := dix0 hi c37
        refine lv_iload C.1 C.2.1 dX5_partnersTax_40 (lv_at hl 2 rfl) ?_
        refine lv_aload_n C.1 C.2.1 dX5_partnersTax_42 rfl (lv_at hl 5 rfl) ?_
        refine hv_get (ci := 6) (Cn := RX5) (T := TX5) (N := 21) (ref := "DividendDeskModel") (v := .ref (ad 18)) C I hM.1 wX5 rfl 18 (by decide) (by decide +kernel) (fun _ h9 => h9) rfl dX5_partnersTax_43 ?_
        refine lv_iload C.1 C.2.1 dX5_partnersTax_46 (lv_at hl 4 rfl) ?_
        refine lv_iload C.1 C.2.1 dX5_partnersTax_48 (lv_at hl 0 rfl) ?_
        refine lv_iadd C.1 C.2.1 dX5_partnersTax_50 ?_
        refine lv_topi (fun z_18 ez_18 => ?_)
        have ez_18 : z_18 = nI (20 * (20 * D + j) + (19 - i)) := by rw [ez_18]; rw [dix hi37, nI_add]
        subst ez_18
        refine hv_ialdN (n := 16000) (f := ar 18) C I (isM_a hM 18 rfl) (show 20 * (20 * D + j) + (19 - i) < 16000 by omega) (by decide) dX5_partnersTax_51 ?_
        refine lv_iadd C.1 C.2.1 dX5_partnersTax_52 ?_
        refine lv_topi (fun z_19 ez_19 => ?_)
        have ez_19 : z_19 = dsum (ptF (ar 18) D j) (i + 1) := by rw [ez_19]; rfl
        subst ez_19
        refine lv_istore (lv' := [(8, .int (dsum (ptF (ar 18) D j) (i + 1))), (10, .int (nI (20 - i) - 1)), (9, .int (low (ptF (ar 18) D j) i)), (6, .long (((ar 12) (20 * D + j)).toInt64)), (5, .int (nI (20 * (20 * D + j)))), (0, .ref o), (1, .int (nI D)), (2, .int (nI j)), (3, .int q0), (4, .int q1)]) C.1 C.2.1 dX5_partnersTax_53 hl (by decide) rfl (fun ls hl => ?_)
        have J75 : ∀ (z_20 : Int32), z_20 = (low (ptF (ar 18) D j) (i + 1)) → ∀ (H : Heap) (locs : List Loc), hv_I G h s h H locs → W p l e (hv_rm 2 0 0 80) s m (([.ref o, .int (nI D), .int (nI j), .int q0, .int q1] : List Value).toArray) below meth c H locs 0 0 (MQ below (va_Qi (fun r u => u = h ∧ r = pTx dy n (ar 7) (ar 12) (ar 15) (ar 17) (ar 18) D j q0 q1) (hv_Bq G h s.heap.size) (hv_A h s.heap.size)) (([.ref o, .int (nI D), .int (nI j), .int q0, .int q1] : List Value).toArray) s 0 0 (hv_A h s.heap.size)) (F0 m 75 ls [.int z_20]) := by
          intro z_20 ez_20 H locs I; subst ez_20
          refine lv_istore (lv' := [(9, .int (low (ptF (ar 18) D j) (i + 1))), (8, .int (dsum (ptF (ar 18) D j) (i + 1))), (10, .int (nI (20 - i) - 1)), (6, .long (((ar 12) (20 * D + j)).toInt64)), (5, .int (nI (20 * (20 * D + j)))), (0, .ref o), (1, .int (nI D)), (2, .int (nI j)), (3, .int q0), (4, .int q1)]) C.1 C.2.1 dX5_partnersTax_75 hl (by decide) rfl (fun ls hl => ?_)
          refine lv_iinc (v := nI (20 - (i + 1)) - 1) (lv' := [(10, .int (nI (20 - (i + 1)) - 1)), (9, .int (low (ptF (ar 18) D j) (i + 1))), (8, .int (dsum (ptF (ar 18) D j) (i + 1))), (6, .long (((ar 12) (20 * D + j)).toInt64)), (5, .int (nI (20 * (20 * D + j)))), (0, .ref o), (1, .int (nI D)), (2, .int (nI j)), (3, .int q0), (4, .int q1)]) C.1 C.2.1 dX5_partnersTax_77 hl (k := 2) rfl (dixN hi37) (by decide) rfl (fun ls hl => ?_)
          refine lv_goto (tgt := 35) C.1 C.2.1 dX5_partnersTax_80 (by decide) ?_
          exact ih (i + 1) (by omega) (by omega)  _ _ I ls (lv_sub hl [0, 1, 2, 3, 4, 5, 6, 7, 8, 9] rfl)
        refine lv_aload_n C.1 C.2.1 dX5_partnersTax_55 rfl (lv_at hl 5 rfl) ?_
        refine hv_get (ci := 6) (Cn := RX5) (T := TX5) (N := 21) (ref := "DividendDeskModel") (v := .ref (ad 18)) C I hM.1 wX5 rfl 18 (by decide) (by decide +kernel) (fun _ h9 => h9) rfl dX5_partnersTax_56 ?_
        refine lv_iload C.1 C.2.1 dX5_partnersTax_59 (lv_at hl 4 rfl) ?_
        refine lv_iload C.1 C.2.1 dX5_partnersTax_61 (lv_at hl 1 rfl) ?_
        refine lv_iadd C.1 C.2.1 dX5_partnersTax_63 ?_
        refine lv_topi (fun z_21 ez_21 => ?_)
        have ez_21 : z_21 = nI (20 * (20 * D + j) + (19 - i)) := by rw [ez_21]; rw [dix hi37, nI_add]
        subst ez_21
        refine hv_ialdN (n := 16000) (f := ar 18) C I (isM_a hM 18 rfl) (show 20 * (20 * D + j) + (19 - i) < 16000 by omega) (by decide) dX5_partnersTax_64 ?_
        refine lv_if_le (tgt := 73) C.1 C.2.1 dX5_partnersTax_65 (by decide) (fun c65 => ?_) (fun c65 => ?_)
        · refine lv_iload C.1 C.2.1 dX5_partnersTax_73 (lv_at hl 2 rfl) ?_
          exact J75 _ (by show _ = (if _ then _ else _); first | rw [if_pos (show (ptF (ar 18) D j) (19 - i) ≤ 0 from c65)] | (rw [if_neg (show ¬ (ptF (ar 18) D j) (19 - i) ≤ 0 from c65)]; exact dix hi37)) _ _ I
        · refine lv_iload C.1 C.2.1 dX5_partnersTax_68 (lv_at hl 1 rfl) ?_
          refine lv_goto (tgt := 75) C.1 C.2.1 dX5_partnersTax_70 (by decide) ?_
          exact J75 _ (by show _ = (if _ then _ else _); first | rw [if_pos (show (ptF (ar 18) D j) (19 - i) ≤ 0 from c65)] | (rw [if_neg (show ¬ (ptF (ar 18) D j) (19 - i) ≤ 0 from c65)]; exact dix hi37)) _ _ I
  exact loop (20 + 1) 0 (Nat.zero_le _) (by omega) _ _ I ls (lv_sub hl [0, 1, 2, 3, 4, 5, 6, 7, 8, 9] rfl)
