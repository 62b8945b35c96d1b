/-! ===== the reference: taxes ===== -/
def ovF (gr po dy ds : Int32) : Int32 := if gr = 0 then 1 else if dy - po ≤ ds then 0 else 1
def mor (x t : Int32) : Int32 := if x ≤ t then 0 else x - t
def shr (al : Int64) (f : Nat → Int32) (sm : Int32) (k : Nat) : Int64 := al * (f k).toInt64 / sm.toInt64
def lft (al : Int64) (f : Nat → Int32) (sm : Int32) : Nat → Int64
  | 0 => al
  | k + 1 => lft al f sm k - shr al f sm k
def dsum (f : Nat → Int32) : Nat → Int32
  | 0 => 0
  | k + 1 => dsum f k + f (19 - k)
def low (f : Nat → Int32) : Nat → Int32
  | 0 => -1
  | k + 1 => if f (19 - k) ≤ 0 then low f k else nI (19 - k)
def lfA (al : Int64) (f : Nat → Int32) (sm lw : Int32) (k : Nat) : Int64 := if nI k = lw then lft al f sm 20 else 0
def txP (al : Int64) (f : Nat → Int32) (sm lw : Int32) (sr : Nat → Int32) (tr : Nat → Int32) (b : Nat) (k : Nat) : Int32 := if f k = 0 then 0 else taxL (shr al f sm k + lfA al f sm lw k) (if tr k = 0 then 30 else sr (b + k))
def txS (al : Int64) (f : Nat → Int32) (sm lw : Int32) (sr : Nat → Int32) (tr : Nat → Int32) (b : Nat) : Nat → Int32
  | 0 => 0
  | k + 1 => txS al f sm lw sr tr b k + txP al f sm lw sr tr b k
def trF (dy : Int32) (vt wv : Nat → Int32) (D j : Nat) (of an : Int32) (k : Nat) : Int32 := if cnt dy (vt j) (wv (20 * D + j)) of an = 0 then 0 else if cnt dy (vt k) (wv (20 * D + k)) of an = 0 then 0 else 1
def ptF (pt : Nat → Int32) (D j : Nat) : Nat → Int32 := fun k => pt (20 * (20 * D + j) + k)
def pTx (dy : Int32) (n : Nat) (vt gr sr wv pt : Nat → Int32) (D j : Nat) (of an : Int32) : Int32 :=
  if dsum (ptF pt D j) 20 = 0 then taxL (gr (20 * D + j)).toInt64 30 else txS (gr (20 * D + j)).toInt64 (ptF pt D j) (dsum (ptF pt D j) 20) (low (ptF pt D j) 20) sr (trF dy vt wv D j of an) (20 * D) n
def taxF (dy : Int32) (n : Nat) (kd vt gr sr ow wv pt : Nat → Int32) (D j : Nat) (of an : Int32) : Int32 :=
  if kd j = 2 then pTx dy n vt gr sr wv pt D j of an else taxL (gr (20 * D + j)).toInt64 (if cnt dy (vt j) (wv (20 * D + j)) of an = 0 then 30 else ow (20 * D + j))
def hsum (f : Nat → Int32) : Nat → Int64
  | 0 => 0
  | k + 1 => hsum f k + (f k).toInt64
theorem dix {i : Nat} (hi : i < 20) : nI (20 - i) - 1 = nI (19 - i) := by rw [show 20 - i = (19 - i) + 1 by omega]; exact nI_pred _
theorem dixN {i : Nat} (hi : i < 20) : nI (20 - i) - 1 + (-1) = nI (20 - (i + 1)) - 1 := by
  rw [dix hi, show 20 - (i + 1) = 19 - i by omega]
  exact (Int32.sub_eq_add_neg _ _).symm
theorem dix0 {i : Nat} (hi : i ≤ 20) (c : ¬ nI (20 - i) - 1 < 0) : i < 20 := by
  apply Nat.lt_of_not_le
  intro z
  have e : i = 20 := by omega
  subst e
  exact c (by decide)
theorem dix1 {i : Nat} (hi : i ≤ 20) (c : nI (20 - i) - 1 < 0) : i = 20 := by
  apply Nat.le_antisymm hi
  apply Nat.le_of_not_lt
  intro z
  rw [dix z] at c
  exact nI_nlt (Nat.zero_le _) (by omega) c
def fRf (a b : Int32) (n d : Nat) (gr po : Nat → Int32) (dy : Int32) : Int32 := if iw a 0 (nI d - 1) = 0 then 1 else if iw b 0 (nI n - 1) = 0 then 1 else if ¬ ovF (gr (20 * a.toNatClampNeg + b.toNatClampNeg)) (po a.toNatClampNeg) dy 60 = 0 then 2 else 0
def fCl (a b : Int32) (n d : Nat) (gr po vt : Nat → Int32) (dy : Int32) : Int32 := if iw a 0 (nI d - 1) = 0 then 1 else if iw b 0 (nI n - 1) = 0 then 1 else if ¬ ovF (gr (20 * a.toNatClampNeg + b.toNatClampNeg)) (po a.toNatClampNeg) dy 1080 = 0 then 2 else if hf dy (vt b.toNatClampNeg) = 0 then 2 else 0
set_option maxHeartbeats 4000000 in
set_option maxRecDepth 100000 in
theorem c_X5_counts (l : Launch) (G : hv_G) (h : hv) (sz : Nat) {o : Nat} {ad : Nat → Nat} {dy : Int32} {n d : Nat} {rf : Int64} {th : Int32} {ar : Nat → Nat → Int32} (hM : isM G h o ad dy n d rf th ar) (D : Nat) (hD : D < 40) (k : Nat) (hk : k < 20) (q0 q1 : Int32) : hv_Mi l yX5_counts wsX5_counts 1 30 0 0 G h sz [.ref o, .int (nI D), .int (nI k), .int q0, .int q1] (fun r u => u = h ∧ r = cnt dy (ar 7 k) (ar 17 (20 * D + k)) q0 q1) := by
  have wX5 : ∀ w ∈ wsX50, w ∈ wsX5_counts := by decide +kernel
  refine hv_enter (y := yX5_counts) (avs := [.ref o, .int (nI D), .int (nI k), .int q0, .int q1]) (maxL := 5) (Qf := fun sz => va_Qi (fun r u => u = h ∧ r = cnt dy (ar 7 k) (ar 17 (20 * D + k)) q0 q1) (hv_Bq G h sz) (hv_A h sz)) (by decide) rfl rfl (Nat.le_of_ble_eq_true rfl) ?_
  intro p e s m below meth c hr hnm C I ls hl
  have hl : lv_has ls 5 [(0, .ref o), (1, .int (nI D)), (2, .int (nI k)), (3, .int q0), (4, .int q1)] := hl
  refine lv_iload C.1 C.2.1 dX5_counts_0 (lv_at hl 4 rfl) ?_
  refine lv_if_ne (tgt := 31) C.1 C.2.1 dX5_counts_2 (by decide) (fun c2 => ?_) (fun c2 => ?_)
  · refine lv_iconst (v := 1) C.1 C.2.1 dX5_counts_31 (by decide) ?_
    refine lv_goto (tgt := 36) C.1 C.2.1 dX5_counts_32 (by decide) ?_
    exact hv_zret (v := 1) C hr I rfl (⟨rfl, by unfold cnt; first | (simp [c2]; done) | ((repeat' split) <;> first | rfl | contradiction)⟩) dX5_counts_36 (Nat.le_of_ble_eq_true rfl) (Nat.le_of_ble_eq_true rfl)
  · refine lv_aload_n C.1 C.2.1 dX5_counts_5 rfl (lv_at hl 0 rfl) ?_
    refine hv_get (ci := 6) (Cn := RX5) (T := TX5) (N := 21) (ref := "DividendDeskModel") (v := .ref (ad 17)) C I hM.1 wX5 rfl 17 (by decide) (by decide +kernel) (fun _ h9 => h9) rfl dX5_counts_6 ?_
    refine lv_bipush (v := 20) C.1 C.2.1 dX5_counts_9 (by decide) ?_
    refine lv_iload_n C.1 C.2.1 dX5_counts_11 rfl (lv_at hl 1 rfl) ?_
    refine lv_imul C.1 C.2.1 dX5_counts_12 ?_
    refine lv_iload_n C.1 C.2.1 dX5_counts_13 rfl (lv_at hl 2 rfl) ?_
    refine lv_iadd C.1 C.2.1 dX5_counts_14 ?_
    refine lv_topi (fun z_1 ez_1 => ?_)
    have ez_1 : z_1 = nI (20 * D + k) := by rw [ez_1]; exact ixN D k
    subst ez_1
    refine hv_zaldN (n := 800) (f := ar 17) C I (isM_a hM 17 rfl) (show 20 * D + k < 800 by omega) (by decide) dX5_counts_15 ?_
    refine lv_if_ne (tgt := 31) C.1 C.2.1 dX5_counts_16 (by decide) (fun c16 => ?_) (fun c16 => ?_)
    · refine lv_iconst (v := 1) C.1 C.2.1 dX5_counts_31 (by decide) ?_
      refine lv_goto (tgt := 36) C.1 C.2.1 dX5_counts_32 (by decide) ?_
      exact hv_zret (v := 1) C hr I rfl (⟨rfl, by unfold cnt; first | (simp [c2, c16]; done) | ((repeat' split) <;> first | rfl | contradiction)⟩) dX5_counts_36 (Nat.le_of_ble_eq_true rfl) (Nat.le_of_ble_eq_true rfl)
    · refine lv_iload_n C.1 C.2.1 dX5_counts_19 rfl (lv_at hl 3 rfl) ?_
      refine lv_if_eq (tgt := 35) C.1 C.2.1 dX5_counts_20 (by decide) (fun c20 => ?_) (fun c20 => ?_)
      · refine lv_iconst (v := 0) C.1 C.2.1 dX5_counts_35 (by decide) ?_
        exact hv_zret (v := 0) C hr I rfl (⟨rfl, by unfold cnt; first | (simp [c2, c16, c20]; done) | ((repeat' split) <;> first | rfl | contradiction)⟩) dX5_counts_36 (Nat.le_of_ble_eq_true rfl) (Nat.le_of_ble_eq_true rfl)
      · refine lv_aload_n C.1 C.2.1 dX5_counts_23 rfl (lv_at hl 0 rfl) ?_
        refine lv_iload_n C.1 C.2.1 dX5_counts_24 rfl (lv_at hl 2 rfl) ?_
        refine hv_ki I (va_runV (As := [.int (nI k)]) (rest := []) C.fix (c_X5_hasForm l G h _ hM k hk) (cwV 1 C.2.2.2.2.1 gX5_counts_X5_hasForm rfl rfl rfl (by decide +kernel) ⟨Nat.le_of_ble_eq_true rfl, Nat.le_of_ble_eq_true rfl⟩) (hv_preV C I hM.1 (r := (RX5, TX5, 21)) rfl) rfl rfl hl.1 rfl (lv_room (Nat.le_of_ble_eq_true rfl)) dX5_counts_25 ⟨Nat.le_of_ble_eq_true rfl, Nat.le_of_ble_eq_true rfl⟩) (fun ru_2 u_2 H locs pu_2 I => ?_)
        obtain ⟨e1, e2⟩ := pu_2; have e1 := e1.symm; subst e1; have e2 := e2.symm; subst e2
        refine lv_if_eq (tgt := 35) C.1 C.2.1 dX5_counts_28 (by decide) (fun c28 => ?_) (fun c28 => ?_)
        · refine lv_iconst (v := 0) C.1 C.2.1 dX5_counts_35 (by decide) ?_
          exact hv_zret (v := 0) C hr I rfl (⟨rfl, by unfold cnt; first | (simp [c2, c16, c20, c28]; done) | ((repeat' split) <;> first | rfl | contradiction)⟩) dX5_counts_36 (Nat.le_of_ble_eq_true rfl) (Nat.le_of_ble_eq_true rfl)
        · refine lv_iconst (v := 1) C.1 C.2.1 dX5_counts_31 (by decide) ?_
          refine lv_goto (tgt := 36) C.1 C.2.1 dX5_counts_32 (by decide) ?_
          exact hv_zret (v := 1) C hr I rfl (⟨rfl, by unfold cnt; first | (simp [c2, c16, c20, c28]; done) | ((repeat' split) <;> first | rfl | contradiction)⟩) dX5_counts_36 (Nat.le_of_ble_eq_true rfl) (Nat.le_of_ble_eq_true rfl)

set_option maxHeartbeats 8000000 in
set_option maxRecDepth 100000 in
theorem c_X5_partnersTax (l : Launch) (G : hv_G) (h : hv) (sz : Nat) {o : Nat} {ad : Nat → Nat} {dy : Int32} {n d : Nat} {rf : Int64} {th : Int32} {ar : Nat → Nat → Int32} (hM : isM G h o ad dy n d rf th ar) (D : Nat) (hD : D < 40) (j : Nat) (hj : j < 20) (q0 q1 : Int32) (hn : n ≤ 20) : hv_Mi l yX5_partnersTax wsX5_partnersTax 2 80 0 0 G h sz [.ref o, .int (nI D), .int (nI j), .int q0, .int q1] (fun r u => u = h ∧ r = pTx dy n (ar 7) (ar 12) (ar 15) (ar 17) (ar 18) D j q0 q1) := by
  have wX5 : ∀ w ∈ wsX50, w ∈ wsX5_partnersTax := by decide +kernel
  refine hv_enter (y := yX5_partnersTax) (avs := [.ref o, .int (nI D), .int (nI j), .int q0, .int q1]) (maxL := 17) (Qf := fun sz => va_Qi (fun r u => u = h ∧ r = pTx dy n (ar 7) (ar 12) (ar 15) (ar 17) (ar 18) D j q0 q1) (hv_Bq G h sz) (hv_A h sz)) (by decide) rfl rfl (Nat.le_of_ble_eq_true rfl) ?_
  intro p e s m below meth c hr hnm C I ls hl
  have hl : lv_has ls 17 [(0, .ref o), (1, .int (nI D)), (2, .int (nI j)), (3, .int q0), (4, .int q1)] := hl
  refine lv_bipush (v := 20) C.1 C.2.1 dX5_partnersTax_0 (by decide) ?_
  refine lv_bipush (v := 20) C.1 C.2.1 dX5_partnersTax_2 (by decide) ?_
  refine lv_iload_n C.1 C.2.1 dX5_partnersTax_4 rfl (lv_at hl 1 rfl) ?_
  refine lv_imul C.1 C.2.1 dX5_partnersTax_5 ?_
  refine lv_iload_n C.1 C.2.1 dX5_partnersTax_6 rfl (lv_at hl 2 rfl) ?_
  refine lv_iadd C.1 C.2.1 dX5_partnersTax_7 ?_
  refine lv_imul C.1 C.2.1 dX5_partnersTax_8 ?_
  refine lv_topi (fun z_1 ez_1 => ?_)
  have ez_1 : z_1 = nI (20 * (20 * D + j)) := by rw [ez_1]; rw [ixN, ixM]
  subst ez_1
  refine lv_istore (lv' := [(5, .int (nI (20 * (20 * D + j)))), (0, .ref o), (1, .int (nI D)), (2, .int (nI j)), (3, .int q0), (4, .int q1)]) C.1 C.2.1 dX5_partnersTax_9 hl (by decide) rfl (fun ls hl => ?_)
  refine lv_aload_n C.1 C.2.1 dX5_partnersTax_11 rfl (lv_at hl 1 rfl) ?_
  refine hv_get (ci := 6) (Cn := RX5) (T := TX5) (N := 21) (ref := "DividendDeskModel") (v := .ref (ad 12)) C I hM.1 wX5 rfl 12 (by decide) (by decide +kernel) (fun _ h9 => h9) rfl dX5_partnersTax_12 ?_
  refine lv_bipush (v := 20) C.1 C.2.1 dX5_partnersTax_15 (by decide) ?_
  refine lv_iload_n C.1 C.2.1 dX5_partnersTax_17 rfl (lv_at hl 2 rfl) ?_
  refine lv_imul C.1 C.2.1 dX5_partnersTax_18 ?_
  refine lv_iload_n C.1 C.2.1 dX5_partnersTax_19 rfl (lv_at hl 3 rfl) ?_
  refine lv_iadd C.1 C.2.1 dX5_partnersTax_20 ?_
  refine lv_topi (fun z_2 ez_2 => ?_)
  have ez_2 : z_2 = nI (20 * D + j) := by rw [ez_2]; exact ixN D j
  subst ez_2
  refine hv_ialdN (n := 800) (f := ar 12) C I (isM_a hM 12 rfl) (show 20 * D + j < 800 by omega) (by decide) dX5_partnersTax_21 ?_
  refine lv_i2l C.1 C.2.1 dX5_partnersTax_22 rfl ?_
  refine lv_lstore (lv' := [(6, .long (((ar 12) (20 * D + j)).toInt64)), (5, .int (nI (20 * (20 * D + j)))), (0, .ref o), (1, .int (nI D)), (2, .int (nI j)), (3, .int q0), (4, .int q1)]) C.1 C.2.1 dX5_partnersTax_23 hl (by decide) rfl (fun ls hl => ?_)
  refine lv_iconst (v := 0) C.1 C.2.1 dX5_partnersTax_25 (by decide) ?_
  refine lv_istore (lv' := [(8, .int 0), (6, .long (((ar 12) (20 * D + j)).toInt64)), (5, .int (nI (20 * (20 * D + j)))), (0, .ref o), (1, .int (nI D)), (2, .int (nI j)), (3, .int q0), (4, .int q1)]) C.1 C.2.1 dX5_partnersTax_26 hl (by decide) rfl (fun ls hl => ?_)
  refine lv_iconst (v := (-1)) C.1 C.2.1 dX5_partnersTax_28 (by decide) ?_
  refine lv_istore (lv' := [(9, .int (-1)), (8, .int 0), (6, .long (((ar 12) (20 * D + j)).toInt64)), (5, .int (nI (20 * (20 * D + j)))), (0, .ref o), (1, .int (nI D)), (2, .int (nI j)), (3, .int q0), (4, .int q1)]) C.1 C.2.1 dX5_partnersTax_29 hl (by decide) rfl (fun ls hl => ?_)
  refine lv_bipush (v := 19) C.1 C.2.1 dX5_partnersTax_31 (by decide) ?_
  refine lv_topi (fun z_3 ez_3 => ?_)
  have ez_3 : z_3 = nI (20 - 0) - 1 := by rw [ez_3]; decide
  subst ez_3
  refine lv_istore (lv' := [(10, .int (nI (20 - 0) - 1)), (9, .int (-1)), (8, .int 0), (6, .long (((ar 12) (20 * D + j)).toInt64)), (5, .int (nI (20 * (20 * D + j)))), (0, .ref o), (1, .int (nI D)), (2, .int (nI j)), (3, .int q0), (4, .int q1)]) C.1 C.2.1 dX5_partnersTax_33 hl (by decide) rfl (fun ls hl => ?_)
  have loop : ∀ (k9 i : Nat) , i ≤ 20 → 20 + 1 ≤ i + k9 → ∀ (H : Heap) (locs : List Loc), hv_I G h s h H locs → ∀ ls : Array Slot, lv_has ls 17 [(10, .int (nI (20 - i) - 1)), (9, .int (low (ptF (ar 18) D j) i)), (8, .int (dsum (ptF (ar 18) D j) i)), (6, .long (((ar 12) (20 * D + j)).toInt64)), (5, .int (nI (20 * (20 * D + j)))), (0, .ref o), (1, .int (nI D)), (2, .int (nI j)), (3, .int q0), (4, .int q1)] → W p l e (hv_rm 2 0 0 80) s m (([.ref o, .int (nI D), .int (nI j), .int q0, .int q1] : List Value).toArray) below meth c H locs 0 0 (MQ below (va_Qi (fun r u => u = h ∧ r = pTx dy n (ar 7) (ar 12) (ar 15) (ar 17) (ar 18) D j q0 q1) (hv_Bq G h s.heap.size) (hv_A h s.heap.size)) (([.ref o, .int (nI D), .int (nI j), .int q0, .int q1] : List Value).toArray) s 0 0 (hv_A h s.heap.size)) (F0 m 35 ls []) := by
    intro k9
    induction k9 with
    | zero => intro i hi hin; exact absurd hin (by omega)
    | succ k9 ih =>
      intro i hi hin H locs I ls hl
      refine lv_iload C.1 C.2.1 dX5_partnersTax_35 (lv_at hl 0 rfl) ?_
      refine lv_if_lt (tgt := 83) C.1 C.2.1 dX5_partnersTax_37 (by decide) (fun c37 => ?_) (fun c37 => ?_)
      · have hi37 : i = 20 := dix1 hi c37
        subst hi37
        refine lv_iload C.1 C.2.1 dX5_partnersTax_83 (lv_at hl 2 rfl) ?_
        refine lv_if_ne (tgt := 96) C.1 C.2.1 dX5_partnersTax_85 (by decide) (fun c85 => ?_) (fun c85 => ?_)
        · refine lv_lload C.1 C.2.1 dX5_partnersTax_96 (lv_at hl 3 rfl) ?_
          refine lv_lstore (lv' := [(10, .long (((ar 12) (20 * D + j)).toInt64)), (9, .int (low (ptF (ar 18) D j) 20)), (8, .int (dsum (ptF (ar 18) D j) 20)), (6, .long (((ar 12) (20 * D + j)).toInt64)), (5, .int (nI (20 * (20 * D + j)))), (0, .ref o), (1, .int (nI D)), (2, .int (nI j)), (3, .int q0), (4, .int q1)]) C.1 C.2.1 dX5_partnersTax_98 hl (by decide) rfl (fun ls hl => ?_)
          refine lv_iconst (v := 0) C.1 C.2.1 dX5_partnersTax_100 (by decide) ?_
          refine lv_istore (lv' := [(12, .int 0), (10, .long (((ar 12) (20 * D + j)).toInt64)), (9, .int (low (ptF (ar 18) D j) 20)), (8, .int (dsum (ptF (ar 18) D j) 20)), (6, .long (((ar 12) (20 * D + j)).toInt64)), (5, .int (nI (20 * (20 * D + j)))), (0, .ref o), (1, .int (nI D)), (2, .int (nI j)), (3, .int q0), (4, .int q1)]) C.1 C.2.1 dX5_partnersTax_101 hl (by decide) rfl (fun ls hl => ?_)
          have loop : ∀ (k9 i : Nat) , i ≤ 20 → 20 + 1 ≤ i + k9 → ∀ (H : Heap) (locs : List Loc), hv_I G h s h H locs → ∀ ls : Array Slot, lv_has ls 17 [(12, .int (nI i)), (10, .long (lft ((ar 12 (20 * D + j)).toInt64) (ptF (ar 18) D j) (dsum (ptF (ar 18) D j) 20) i)), (9, .int (low (ptF (ar 18) D j) 20)), (8, .int (dsum (ptF (ar 18) D j) 20)), (6, .long (((ar 12) (20 * D + j)).toInt64)), (5, .int (nI (20 * (20 * D + j)))), (0, .ref o), (1, .int (nI D)), (2, .int (nI j)), (3, .int q0), (4, .int q1)] → W p l e (hv_rm 2 0 0 80) s m (([.ref o, .int (nI D), .int (nI j), .int q0, .int q1] : List Value).toArray) below meth c H locs 0 0 (MQ below (va_Qi (fun r u => u = h ∧ r = pTx dy n (ar 7) (ar 12) (ar 15) (ar 17) (ar 18) D j q0 q1) (hv_Bq G h s.heap.size) (hv_A h s.heap.size)) (([.ref o, .int (nI D), .int (nI j), .int q0, .int q1] : List Value).toArray) s 0 0 (hv_A h s.heap.size)) (F0 m 103 ls []) := by
            intro k9
            induction k9 with
            | zero => intro i hi hin; exact absurd hin (by omega)
            | succ k9 ih =>
              intro i hi hin H locs I ls hl
              refine lv_iload C.1 C.2.1 dX5_partnersTax_103 (lv_at hl 0 rfl) ?_
              refine lv_bipush (v := 20) C.1 C.2.1 dX5_partnersTax_105 (by decide) ?_
              refine lv_icmp_ge (tgt := 139) C.1 C.2.1 dX5_partnersTax_107 (by decide) (fun c107 => ?_) (fun c107 => ?_)
              · have hi107 : i = 20 := Nat.le_antisymm hi (hv_leN (n := 20) (by decide) (by omega) c107)
                subst hi107
                refine lv_iconst (v := 0) C.1 C.2.1 dX5_partnersTax_139 (by decide) ?_
                refine lv_istore (lv' := [(12, .int 0), (10, .long (lft ((ar 12 (20 * D + j)).toInt64) (ptF (ar 18) D j) (dsum (ptF (ar 18) D j) 20) 20)), (9, .int (low (ptF (ar 18) D j) 20)), (8, .int (dsum (ptF (ar 18) D j) 20)), (6, .long (((ar 12) (20 * D + j)).toInt64)), (5, .int (nI (20 * (20 * D + j)))), (0, .ref o), (1, .int (nI D)), (2, .int (nI j)), (3, .int q0), (4, .int q1)]) C.1 C.2.1 dX5_partnersTax_140 hl (by decide) rfl (fun ls hl => ?_)
                refine lv_iconst (v := 0) C.1 C.2.1 dX5_partnersTax_142 (by decide) ?_
                refine lv_istore (lv' := [(13, .int 0), (12, .int 0), (10, .long (lft ((ar 12 (20 * D + j)).toInt64) (ptF (ar 18) D j) (dsum (ptF (ar 18) D j) 20) 20)), (9, .int (low (ptF (ar 18) D j) 20)), (8, .int (dsum (ptF (ar 18) D j) 20)), (6, .long (((ar 12) (20 * D + j)).toInt64)), (5, .int (nI (20 * (20 * D + j)))), (0, .ref o), (1, .int (nI D)), (2, .int (nI j)), (3, .int q0), (4, .int q1)]) C.1 C.2.1 dX5_partnersTax_143 hl (by decide) rfl (fun ls hl => ?_)
                have loop : ∀ (k9 i : Nat) , i ≤ n → n + 1 ≤ i + k9 → ∀ (H : Heap) (locs : List Loc), hv_I G h s h H locs → ∀ ls : Array Slot, lv_has ls 17 [(13, .int (nI i)), (12, .int (txS ((ar 12 (20 * D + j)).toInt64) (ptF (ar 18) D j) (dsum (ptF (ar 18) D j) 20) (low (ptF (ar 18) D j) 20) (ar 15) (trF dy (ar 7) (ar 17) D j q0 q1) (20 * D) i)), (10, .long (lft ((ar 12 (20 * D + j)).toInt64) (ptF (ar 18) D j) (dsum (ptF (ar 18) D j) 20) 20)), (9, .int (low (ptF (ar 18) D j) 20)), (8, .int (dsum (ptF (ar 18) D j) 20)), (6, .long (((ar 12) (20 * D + j)).toInt64)), (5, .int (nI (20 * (20 * D + j)))), (0, .ref o), (1, .int (nI D)), (2, .int (nI j)), (3, .int q0), (4, .int q1)] → W p l e (hv_rm 2 0 0 80) s m (([.ref o, .int (nI D), .int (nI j), .int q0, .int q1] : List Value).toArray) below meth c H locs 0 0 (MQ below (va_Qi (fun r u => u = h ∧ r = pTx dy n (ar 7) (ar 12) (ar 15) (ar 17) (ar 18) D j q0 q1) (hv_Bq G h s.heap.size) (hv_A h s.heap.size)) (([.ref o, .int (nI D), .int (nI j), .int q0, .int q1] : List Value).toArray) s 0 0 (hv_A h s.heap.size)) (F0 m 145 ls []) := by
                  intro k9
                  induction k9 with
                  | zero => intro i hi hin; exact absurd hin (by omega)
                  | succ k9 ih =>
                    intro i hi hin H locs I ls hl
                    refine lv_iload C.1 C.2.1 dX5_partnersTax_145 (lv_at hl 0 rfl) ?_
                    refine lv_aload_n C.1 C.2.1 dX5_partnersTax_147 rfl (lv_at hl 7 rfl) ?_
                    refine hv_get (ci := 6) (Cn := RX5) (T := TX5) (N := 21) (ref := "DividendDeskModel") (v := .int (nI n)) C I hM.1 wX5 rfl 3 (by decide) (by decide +kernel) (fun _ h9 => h9) rfl dX5_partnersTax_148 ?_
                    refine lv_icmp_ge (tgt := 275) C.1 C.2.1 dX5_partnersTax_151 (by decide) (fun c151 => ?_) (fun c151 => ?_)
                    · have hi151 : i = n := Nat.le_antisymm hi (hv_leN (by omega) (by omega) c151)
                      refine lv_iload C.1 C.2.1 dX5_partnersTax_275 (lv_at hl 1 rfl) ?_
                      exact hv_iret (v := (txS ((ar 12 (20 * D + j)).toInt64) (ptF (ar 18) D j) (dsum (ptF (ar 18) D j) 20) (low (ptF (ar 18) D j) 20) (ar 15) (trF dy (ar 7) (ar 17) D j q0 q1) (20 * D) i)) C hr I (⟨rfl, by unfold pTx; rw [if_neg c85]; rw [hi151]⟩) dX5_partnersTax_277 (Nat.le_of_ble_eq_true rfl) (Nat.le_of_ble_eq_true rfl)
                    · have hi151 : i < n := hv_ltN (by omega) (by omega) c151
                      refine lv_lload C.1 C.2.1 dX5_partnersTax_154 (lv_at hl 5 rfl) ?_
                      refine lv_aload_n C.1 C.2.1 dX5_partnersTax_156 rfl (lv_at hl 7 rfl) ?_
                      refine hv_get (ci := 6) (Cn := RX5) (T := TX5) (N := 21) (ref := "DividendDeskModel") (v := .ref (ad 18)) C I hM.1 wX5 rfl 18 (by decide) (by decide +kernel) (fun _ h9 => h9) rfl dX5_partnersTax_157 ?_
                      refine lv_iload C.1 C.2.1 dX5_partnersTax_160 (lv_at hl 6 rfl) ?_
                      refine lv_iload C.1 C.2.1 dX5_partnersTax_162 (lv_at hl 0 rfl) ?_
                      refine lv_iadd C.1 C.2.1 dX5_partnersTax_164 ?_
                      refine lv_topi (fun z_4 ez_4 => ?_)
                      have ez_4 : z_4 = nI (20 * (20 * D + j) + i) := by rw [ez_4]; rw [nI_add]
                      subst ez_4
                      refine hv_ialdN (n := 16000) (f := ar 18) C I (isM_a hM 18 rfl) (show 20 * (20 * D + j) + i < 16000 by omega) (by decide) dX5_partnersTax_165 ?_
                      refine lv_i2l C.1 C.2.1 dX5_partnersTax_166 rfl ?_
                      refine lv_lmul C.1 C.2.1 dX5_partnersTax_167 ?_
                      refine lv_iload C.1 C.2.1 dX5_partnersTax_168 (lv_at hl 4 rfl) ?_
                      refine lv_i2l C.1 C.2.1 dX5_partnersTax_170 rfl ?_
                      refine lv_ldiv C.1 C.2.1 dX5_partnersTax_171 (i64_ne0 c85) ?_
                      have J185 : ∀ (z_5 : Int64), z_5 = (lfA ((ar 12 (20 * D + j)).toInt64) (ptF (ar 18) D j) (dsum (ptF (ar 18) D j) 20) (low (ptF (ar 18) D j) 20) i) → ∀ (H : Heap) (locs : List Loc), hv_I G h s h H locs → W p l e (hv_rm 2 0 0 80) s m (([.ref o, .int (nI D), .int (nI j), .int q0, .int q1] : List Value).toArray) below meth c H locs 0 0 (MQ below (va_Qi (fun r u => u = h ∧ r = pTx dy n (ar 7) (ar 12) (ar 15) (ar 17) (ar 18) D j q0 q1) (hv_Bq G h s.heap.size) (hv_A h s.heap.size)) (([.ref o, .int (nI D), .int (nI j), .int q0, .int q1] : List Value).toArray) s 0 0 (hv_A h s.heap.size)) (F0 m 185 ls [.long z_5, .long (((((ar 12) (20 * D + j)).toInt64) * (((ar 18) (20 * (20 * D + j) + i)).toInt64)) / ((dsum (ptF (ar 18) D j) 20).toInt64))]) := by
                        intro z_5 ez_5 H locs I; subst ez_5
                        refine lv_ladd C.1 C.2.1 dX5_partnersTax_185 ?_
                        refine lv_lstore (lv' := [(14, .long ((((((ar 12) (20 * D + j)).toInt64) * (((ar 18) (20 * (20 * D + j) + i)).toInt64)) / ((dsum (ptF (ar 18) D j) 20).toInt64)) + (lfA ((ar 12 (20 * D + j)).toInt64) (ptF (ar 18) D j) (dsum (ptF (ar 18) D j) 20) (low (ptF (ar 18) D j) 20) i))), (13, .int (nI i)), (12, .int (txS ((ar 12 (20 * D + j)).toInt64) (ptF (ar 18) D j) (dsum (ptF (ar 18) D j) 20) (low (ptF (ar 18) D j) 20) (ar 15) (trF dy (ar 7) (ar 17) D j q0 q1) (20 * D) i)), (10, .long (lft ((ar 12 (20 * D + j)).toInt64) (ptF (ar 18) D j) (dsum (ptF (ar 18) D j) 20) 20)), (9, .int (low (ptF (ar 18) D j) 20)), (8, .int (dsum (ptF (ar 18) D j) 20)), (6, .long (((ar 12) (20 * D + j)).toInt64)), (5, .int (nI (20 * (20 * D + j)))), (0, .ref o), (1, .int (nI D)), (2, .int (nI j)), (3, .int q0), (4, .int q1)]) C.1 C.2.1 dX5_partnersTax_186 hl (by decide) rfl (fun ls hl => ?_)
                        have J218 : ∀ (z_6 : Int32), z_6 = ((trF dy (ar 7) (ar 17) D j q0 q1) i) → ∀ (H : Heap) (locs : List Loc), hv_I G h s h H locs → W p l e (hv_rm 2 0 0 80) s m (([.ref o, .int (nI D), .int (nI j), .int q0, .int q1] : List Value).toArray) below meth c H locs 0 0 (MQ below (va_Qi (fun r u => u = h ∧ r = pTx dy n (ar 7) (ar 12) (ar 15) (ar 17) (ar 18) D j q0 q1) (hv_Bq G h s.heap.size) (hv_A h s.heap.size)) (([.ref o, .int (nI D), .int (nI j), .int q0, .int q1] : List Value).toArray) s 0 0 (hv_A h s.heap.size)) (F0 m 218 ls [.int z_6]) := by
                          intro z_6 ez_6 H locs I; subst ez_6
                          refine lv_istore (lv' := [(16, .int ((trF dy (ar 7) (ar 17) D j q0 q1) i)), (14, .long ((((((ar 12) (20 * D + j)).toInt64) * (((ar 18) (20 * (20 * D + j) + i)).toInt64)) / ((dsum (ptF (ar 18) D j) 20).toInt64)) + (lfA ((ar 12 (20 * D + j)).toInt64) (ptF (ar 18) D j) (dsum (ptF (ar 18) D j) 20) (low (ptF (ar 18) D j) 20) i))), (13, .int (nI i)), (12, .int (txS ((ar 12 (20 * D + j)).toInt64) (ptF (ar 18) D j) (dsum (ptF (ar 18) D j) 20) (low (ptF (ar 18) D j) 20) (ar 15) (trF dy (ar 7) (ar 17) D j q0 q1) (20 * D) i)), (10, .long (lft ((ar 12 (20 * D + j)).toInt64) (ptF (ar 18) D j) (dsum (ptF (ar 18) D j) 20) 20)), (9, .int (low (ptF (ar 18) D j) 20)), (8, .int (dsum (ptF (ar 18) D j) 20)), (6, .long (((ar 12) (20 * D + j)).toInt64)), (5, .int (nI (20 * (20 * D + j)))), (0, .ref o), (1, .int (nI D)), (2, .int (nI j)), (3, .int q0), (4, .int q1)]) C.1 C.2.1 dX5_partnersTax_218 hl (by decide) rfl (fun ls hl => ?_)
                          refine lv_iload C.1 C.2.1 dX5_partnersTax_220 (lv_at hl 3 rfl) ?_
                          have J266 : ∀ (z_7 : Int32), z_7 = (txP ((ar 12 (20 * D + j)).toInt64) (ptF (ar 18) D j) (dsum (ptF (ar 18) D j) 20) (low (ptF (ar 18) D j) 20) (ar 15) (trF dy (ar 7) (ar 17) D j q0 q1) (20 * D) i) → ∀ (H : Heap) (locs : List Loc), hv_I G h s h H locs → W p l e (hv_rm 2 0 0 80) s m (([.ref o, .int (nI D), .int (nI j), .int q0, .int q1] : List Value).toArray) below meth c H locs 0 0 (MQ below (va_Qi (fun r u => u = h ∧ r = pTx dy n (ar 7) (ar 12) (ar 15) (ar 17) (ar 18) D j q0 q1) (hv_Bq G h s.heap.size) (hv_A h s.heap.size)) (([.ref o, .int (nI D), .int (nI j), .int q0, .int q1] : List Value).toArray) s 0 0 (hv_A h s.heap.size)) (F0 m 266 ls [.int z_7, .int (txS ((ar 12 (20 * D + j)).toInt64) (ptF (ar 18) D j) (dsum (ptF (ar 18) D j) 20) (low (ptF (ar 18) D j) 20) (ar 15) (trF dy (ar 7) (ar 17) D j q0 q1) (20 * D) i)]) := by
                            intro z_7 ez_7 H locs I; subst ez_7
                            refine lv_iadd C.1 C.2.1 dX5_partnersTax_266 ?_
                            refine lv_topi (fun z_8 ez_8 => ?_)
                            have ez_8 : z_8 = txS ((ar 12 (20 * D + j)).toInt64) (ptF (ar 18) D j) (dsum (ptF (ar 18) D j) 20) (low (ptF (ar 18) D j) 20) (ar 15) (trF dy (ar 7) (ar 17) D j q0 q1) (20 * D) (i + 1) := by rw [ez_8]; rfl
                            subst ez_8
                            refine lv_istore (lv' := [(12, .int (txS ((ar 12 (20 * D + j)).toInt64) (ptF (ar 18) D j) (dsum (ptF (ar 18) D j) 20) (low (ptF (ar 18) D j) 20) (ar 15) (trF dy (ar 7) (ar 17) D j q0 q1) (20 * D) (i + 1))), (16, .int ((trF dy (ar 7) (ar 17) D j q0 q1) i)), (14, .long ((((((ar 12) (20 * D + j)).toInt64) * (((ar 18) (20 * (20 * D + j) + i)).toInt64)) / ((dsum (ptF (ar 18) D j) 20).toInt64)) + (lfA ((ar 12 (20 * D + j)).toInt64) (ptF (ar 18) D j) (dsum (ptF (ar 18) D j) 20) (low (ptF (ar 18) D j) 20) i))), (13, .int (nI i)), (10, .long (lft ((ar 12 (20 * D + j)).toInt64) (ptF (ar 18) D j) (dsum (ptF (ar 18) D j) 20) 20)), (9, .int (low (ptF (ar 18) D j) 20)), (8, .int (dsum (ptF (ar 18) D j) 20)), (6, .long (((ar 12) (20 * D + j)).toInt64)), (5, .int (nI (20 * (20 * D + j)))), (0, .ref o), (1, .int (nI D)), (2, .int (nI j)), (3, .int q0), (4, .int q1)]) C.1 C.2.1 dX5_partnersTax_267 hl (by decide) rfl (fun ls hl => ?_)
                            refine lv_iinc (v := nI (i + 1)) (lv' := [(13, .int (nI (i + 1))), (12, .int (txS ((ar 12 (20 * D + j)).toInt64) (ptF (ar 18) D j) (dsum (ptF (ar 18) D j) 20) (low (ptF (ar 18) D j) 20) (ar 15) (trF dy (ar 7) (ar 17) D j q0 q1) (20 * D) (i + 1))), (16, .int ((trF dy (ar 7) (ar 17) D j q0 q1) i)), (14, .long ((((((ar 12) (20 * D + j)).toInt64) * (((ar 18) (20 * (20 * D + j) + i)).toInt64)) / ((dsum (ptF (ar 18) D j) 20).toInt64)) + (lfA ((ar 12 (20 * D + j)).toInt64) (ptF (ar 18) D j) (dsum (ptF (ar 18) D j) 20) (low (ptF (ar 18) D j) 20) i))), (10, .long (lft ((ar 12 (20 * D + j)).toInt64) (ptF (ar 18) D j) (dsum (ptF (ar 18) D j) 20) 20)), (9, .int (low (ptF (ar 18) D j) 20)), (8, .int (dsum (ptF (ar 18) D j) 20)), (6, .long (((ar 12) (20 * D + j)).toInt64)), (5, .int (nI (20 * (20 * D + j)))), (0, .ref o), (1, .int (nI D)), (2, .int (nI j)), (3, .int q0), (4, .int q1)]) C.1 C.2.1 dX5_partnersTax_269 hl (k := 3) rfl (nI_1 i) (by decide) rfl (fun ls hl => ?_)
                            refine lv_goto (tgt := 145) C.1 C.2.1 dX5_partnersTax_272 (by decide) ?_
                            exact ih (i + 1) (by omega) (by omega)  _ _ I ls (lv_sub hl [0, 1, 4, 5, 6, 7, 8, 9, 10, 11, 12, 13] rfl)
                          refine lv_aload_n C.1 C.2.1 dX5_partnersTax_222 rfl (lv_at hl 9 rfl) ?_
                          refine hv_get (ci := 6) (Cn := RX5) (T := TX5) (N := 21) (ref := "DividendDeskModel") (v := .ref (ad 18)) C I hM.1 wX5 rfl 18 (by decide) (by decide +kernel) (fun _ h9 => h9) rfl dX5_partnersTax_223 ?_
                          refine lv_iload C.1 C.2.1 dX5_partnersTax_226 (lv_at hl 8 rfl) ?_
                          refine lv_iload C.1 C.2.1 dX5_partnersTax_228 (lv_at hl 2 rfl) ?_
                          refine lv_iadd C.1 C.2.1 dX5_partnersTax_230 ?_
                          refine lv_topi (fun z_9 ez_9 => ?_)
                          have ez_9 : z_9 = nI (20 * (20 * D + j) + i) := by rw [ez_9]; rw [nI_add]
                          subst ez_9
                          refine hv_ialdN (n := 16000) (f := ar 18) C I (isM_a hM 18 rfl) (show 20 * (20 * D + j) + i < 16000 by omega) (by decide) dX5_partnersTax_231 ?_
                          refine lv_if_ne (tgt := 239) C.1 C.2.1 dX5_partnersTax_232 (by decide) (fun c232 => ?_) (fun c232 => ?_)
                          · refine lv_lload C.1 C.2.1 dX5_partnersTax_239 (lv_at hl 1 rfl) ?_
                            have J263 : ∀ (z_10 : Int32), z_10 = (if (trF dy (ar 7) (ar 17) D j q0 q1) i = 0 then 30 else ar 15 (20 * D + i)) → ∀ (H : Heap) (locs : List Loc), hv_I G h s h H locs → W p l e (hv_rm 2 0 0 80) s m (([.ref o, .int (nI D), .int (nI j), .int q0, .int q1] : List Value).toArray) below meth c H locs 0 0 (MQ below (va_Qi (fun r u => u = h ∧ r = pTx dy n (ar 7) (ar 12) (ar 15) (ar 17) (ar 18) D j q0 q1) (hv_Bq G h s.heap.size) (hv_A h s.heap.size)) (([.ref o, .int (nI D), .int (nI j), .int q0, .int q1] : List Value).toArray) s 0 0 (hv_A h s.heap.size)) (F0 m 263 ls [.int z_10, .long ((((((ar 12) (20 * D + j)).toInt64) * (((ar 18) (20 * (20 * D + j) + i)).toInt64)) / ((dsum (ptF (ar 18) D j) 20).toInt64)) + (lfA ((ar 12 (20 * D + j)).toInt64) (ptF (ar 18) D j) (dsum (ptF (ar 18) D j) 20) (low (ptF (ar 18) D j) 20) i)), .int (txS ((ar 12 (20 * D + j)).toInt64) (ptF (ar 18) D j) (dsum (ptF (ar 18) D j) 20) (low (ptF (ar 18) D j) 20) (ar 15) (trF dy (ar 7) (ar 17) D j q0 q1) (20 * D) i)]) := by
                              intro z_10 ez_10 H locs I; subst ez_10
                              refine hv_ki I (va_runS (As := [.long ((((((ar 12) (20 * D + j)).toInt64) * (((ar 18) (20 * (20 * D + j) + i)).toInt64)) / ((dsum (ptF (ar 18) D j) 20).toInt64)) + (lfA ((ar 12 (20 * D + j)).toInt64) (ptF (ar 18) D j) (dsum (ptF (ar 18) D j) 20) (low (ptF (ar 18) D j) 20) i)), .int (if (trF dy (ar 7) (ar 17) D j q0 q1) i = 0 then 30 else ar 15 (20 * D + i))]) (rest := [.int (txS ((ar 12 (20 * D + j)).toInt64) (ptF (ar 18) D j) (dsum (ptF (ar 18) D j) 20) (low (ptF (ar 18) D j) 20) (ar 15) (trF dy (ar 7) (ar 17) D j q0 q1) (20 * D) i)]) C.fix (c_X5_taxOf l G h _ ((((((ar 12) (20 * D + j)).toInt64) * (((ar 18) (20 * (20 * D + j) + i)).toInt64)) / ((dsum (ptF (ar 18) D j) 20).toInt64)) + (lfA ((ar 12 (20 * D + j)).toInt64) (ptF (ar 18) D j) (dsum (ptF (ar 18) D j) 20) (low (ptF (ar 18) D j) 20) i)) (if (trF dy (ar 7) (ar 17) D j q0 q1) i = 0 then 30 else ar 15 (20 * D + i))) (va_cwS 2 C.2.2.2.2.1 gX5_partnersTax_X5_taxOf rfl rfl rfl (by decide +kernel) ⟨Nat.le_of_ble_eq_true rfl, Nat.le_of_ble_eq_true rfl⟩) (hv_preS C I) rfl rfl hl.1 rfl (lv_room (Nat.le_of_ble_eq_true rfl)) dX5_partnersTax_263 ⟨Nat.le_of_ble_eq_true rfl, Nat.le_of_ble_eq_true rfl⟩) (fun ru_11 u_11 H locs pu_11 I => ?_)
                              obtain ⟨e1, e2⟩ := pu_11; have e1 := e1.symm; subst e1; have e2 := e2.symm; subst e2
                              exact J266 _ (by unfold txP; exact (if_neg (show ¬ (ptF (ar 18) D j) i = 0 from c232)).symm) _ _ I
                            refine lv_iload C.1 C.2.1 dX5_partnersTax_241 (lv_at hl 0 rfl) ?_
                            refine lv_if_eq (tgt := 261) C.1 C.2.1 dX5_partnersTax_243 (by decide) (fun c243 => ?_) (fun c243 => ?_)
                            · refine lv_bipush (v := 30) C.1 C.2.1 dX5_partnersTax_261 (by decide) ?_
                              exact J263 _ (by first | (simp [c243]; done) | ((repeat' split) <;> first | rfl | contradiction)) _ _ I
                            · refine lv_aload_n C.1 C.2.1 dX5_partnersTax_246 rfl (lv_at hl 9 rfl) ?_
                              refine hv_get (ci := 6) (Cn := RX5) (T := TX5) (N := 21) (ref := "DividendDeskModel") (v := .ref (ad 15)) C I hM.1 wX5 rfl 15 (by decide) (by decide +kernel) (fun _ h9 => h9) rfl dX5_partnersTax_247 ?_
                              refine lv_bipush (v := 20) C.1 C.2.1 dX5_partnersTax_250 (by decide) ?_
                              refine lv_iload_n C.1 C.2.1 dX5_partnersTax_252 rfl (lv_at hl 10 rfl) ?_
                              refine lv_imul C.1 C.2.1 dX5_partnersTax_253 ?_
                              refine lv_iload C.1 C.2.1 dX5_partnersTax_254 (lv_at hl 2 rfl) ?_
                              refine lv_iadd C.1 C.2.1 dX5_partnersTax_256 ?_
                              refine lv_topi (fun z_12 ez_12 => ?_)
                              have ez_12 : z_12 = nI (20 * D + i) := by rw [ez_12]; exact ixN D i
                              subst ez_12
                              refine hv_ialdN (n := 800) (f := ar 15) C I (isM_a hM 15 rfl) (show 20 * D + i < 800 by omega) (by decide) dX5_partnersTax_257 ?_
                              refine lv_goto (tgt := 263) C.1 C.2.1 dX5_partnersTax_258 (by decide) ?_
                              exact J263 _ (by first | (simp [c243]; done) | ((repeat' split) <;> first | rfl | contradiction)) _ _ I
                          · refine lv_iconst (v := 0) C.1 C.2.1 dX5_partnersTax_235 (by decide) ?_
                            refine lv_goto (tgt := 266) C.1 C.2.1 dX5_partnersTax_236 (by decide) ?_
                            exact J266 _ (by unfold txP; exact (if_pos (show (ptF (ar 18) D j) i = 0 from c232)).symm) _ _ I
                        refine lv_aload_n C.1 C.2.1 dX5_partnersTax_188 rfl (lv_at hl 8 rfl) ?_
                        refine lv_iload_n C.1 C.2.1 dX5_partnersTax_189 rfl (lv_at hl 9 rfl) ?_
                        refine lv_iload_n C.1 C.2.1 dX5_partnersTax_190 rfl (lv_at hl 10 rfl) ?_
                        refine lv_iload_n C.1 C.2.1 dX5_partnersTax_191 rfl (lv_at hl 11 rfl) ?_
                        refine lv_iload C.1 C.2.1 dX5_partnersTax_192 (lv_at hl 12 rfl) ?_
                        refine hv_ki I (va_runV (As := [.int (nI D), .int (nI j), .int q0, .int q1]) (rest := []) C.fix (c_X5_counts l G h _ hM D hD j hj q0 q1) (cwV 4 C.2.2.2.2.1 gX5_partnersTax_X5_counts rfl rfl rfl (by decide +kernel) ⟨Nat.le_of_ble_eq_true rfl, Nat.le_of_ble_eq_true rfl⟩) (hv_preV C I hM.1 (r := (RX5, TX5, 21)) rfl) rfl rfl hl.1 rfl (lv_room (Nat.le_of_ble_eq_true rfl)) dX5_partnersTax_194 ⟨Nat.le_of_ble_eq_true rfl, Nat.le_of_ble_eq_true rfl⟩) (fun ru_13 u_13 H locs pu_13 I => ?_)
                        obtain ⟨e1, e2⟩ := pu_13; have e1 := e1.symm; subst e1; have e2 := e2.symm; subst e2
                        refine lv_if_eq (tgt := 217) C.1 C.2.1 dX5_partnersTax_197 (by decide) (fun c197 => ?_) (fun c197 => ?_)
                        · refine lv_iconst (v := 0) C.1 C.2.1 dX5_partnersTax_217 (by decide) ?_
                          exact J218 _ (by unfold trF; first | (simp [c197]; done) | ((repeat' split) <;> first | rfl | contradiction)) _ _ I
                        · refine lv_aload_n C.1 C.2.1 dX5_partnersTax_200 rfl (lv_at hl 8 rfl) ?_
                          refine lv_iload_n C.1 C.2.1 dX5_partnersTax_201 rfl (lv_at hl 9 rfl) ?_
                          refine lv_iload C.1 C.2.1 dX5_partnersTax_202 (lv_at hl 1 rfl) ?_
                          refine lv_iload_n C.1 C.2.1 dX5_partnersTax_204 rfl (lv_at hl 11 rfl) ?_
                          refine lv_iload C.1 C.2.1 dX5_partnersTax_205 (lv_at hl 12 rfl) ?_
                          refine hv_ki I (va_runV (As := [.int (nI D), .int (nI i), .int q0, .int q1]) (rest := []) C.fix (c_X5_counts l G h _ hM D hD i (show i < 20 by omega) q0 q1) (cwV 4 C.2.2.2.2.1 gX5_partnersTax_X5_counts rfl rfl rfl (by decide +kernel) ⟨Nat.le_of_ble_eq_true rfl, Nat.le_of_ble_eq_true rfl⟩) (hv_preV C I hM.1 (r := (RX5, TX5, 21)) rfl) rfl rfl hl.1 rfl (lv_room (Nat.le_of_ble_eq_true rfl)) dX5_partnersTax_207 ⟨Nat.le_of_ble_eq_true rfl, Nat.le_of_ble_eq_true rfl⟩) (fun ru_14 u_14 H locs pu_14 I => ?_)
                          obtain ⟨e1, e2⟩ := pu_14; have e1 := e1.symm; subst e1; have e2 := e2.symm; subst e2
                          refine lv_if_eq (tgt := 217) C.1 C.2.1 dX5_partnersTax_210 (by decide) (fun c210 => ?_) (fun c210 => ?_)
                          · refine lv_iconst (v := 0) C.1 C.2.1 dX5_partnersTax_217 (by decide) ?_
                            exact J218 _ (by unfold trF; first | (simp [c197, c210]; done) | ((repeat' split) <;> first | rfl | contradiction)) _ _ I
                          · refine lv_iconst (v := 1) C.1 C.2.1 dX5_partnersTax_213 (by decide) ?_
                            refine lv_goto (tgt := 218) C.1 C.2.1 dX5_partnersTax_214 (by decide) ?_
                            exact J218 _ (by unfold trF; first | (simp [c197, c210]; done) | ((repeat' split) <;> first | rfl | contradiction)) _ _ I
                      refine lv_iload C.1 C.2.1 dX5_partnersTax_172 (lv_at hl 0 rfl) ?_
                      refine lv_iload C.1 C.2.1 dX5_partnersTax_174 (lv_at hl 3 rfl) ?_
                      refine lv_icmp_ne (tgt := 184) C.1 C.2.1 dX5_partnersTax_176 (by decide) (fun c176 => ?_) (fun c176 => ?_)
                      · refine lv_lconst (v := 0) C.1 C.2.1 dX5_partnersTax_184 (by decide) ?_
                        exact J185 _ (by unfold lfA; first | (simp [c176]; done) | ((repeat' split) <;> first | rfl | contradiction)) _ _ I
                      · refine lv_lload C.1 C.2.1 dX5_partnersTax_179 (lv_at hl 2 rfl) ?_
                        refine lv_goto (tgt := 185) C.1 C.2.1 dX5_partnersTax_181 (by decide) ?_
                        exact J185 _ (by unfold lfA; first | (simp [c176]; done) | ((repeat' split) <;> first | rfl | contradiction)) _ _ I
                exact loop (n + 1) 0 (Nat.zero_le _) (by omega) _ _ I ls (lv_sub hl [0, 1, 2, 3, 4, 5, 6, 7, 8, 9, 10, 11] rfl)
              · have hi107 : i < 20 := hv_ltN (n := 20) (by decide) (by omega) c107
                refine lv_lload C.1 C.2.1 dX5_partnersTax_110 (lv_at hl 1 rfl) ?_
                refine lv_lload C.1 C.2.1 dX5_partnersTax_112 (lv_at hl 4 rfl) ?_
                refine lv_aload_n C.1 C.2.1 dX5_partnersTax_114 rfl (lv_at hl 6 rfl) ?_
                refine hv_get (ci := 6) (Cn := RX5) (T := TX5) (N := 21) (ref := "DividendDeskModel") (v := .ref (ad 18)) C I hM.1 wX5 rfl 18 (by decide) (by decide +kernel) (fun _ h9 => h9) rfl dX5_partnersTax_115 ?_
                refine lv_iload C.1 C.2.1 dX5_partnersTax_118 (lv_at hl 5 rfl) ?_
                refine lv_iload C.1 C.2.1 dX5_partnersTax_120 (lv_at hl 0 rfl) ?_
                refine lv_iadd C.1 C.2.1 dX5_partnersTax_122 ?_
                refine lv_topi (fun z_15 ez_15 => ?_)
                have ez_15 : z_15 = nI (20 * (20 * D + j) + i) := by rw [ez_15]; rw [nI_add]
                subst ez_15
                refine hv_ialdN (n := 16000) (f := ar 18) C I (isM_a hM 18 rfl) (show 20 * (20 * D + j) + i < 16000 by omega) (by decide) dX5_partnersTax_123 ?_
                refine lv_i2l C.1 C.2.1 dX5_partnersTax_124 rfl ?_
                refine lv_lmul C.1 C.2.1 dX5_partnersTax_125 ?_
                refine lv_iload C.1 C.2.1 dX5_partnersTax_126 (lv_at hl 3 rfl) ?_
                refine lv_i2l C.1 C.2.1 dX5_partnersTax_128 rfl ?_
                refine lv_ldiv C.1 C.2.1 dX5_partnersTax_129 (i64_ne0 c85) ?_
                refine lv_lsub C.1 C.2.1 dX5_partnersTax_130 ?_
                refine lv_topl (fun z_16 ez_16 => ?_)
                have ez_16 : z_16 = lft ((ar 12 (20 * D + j)).toInt64) (ptF (ar 18) D j) (dsum (ptF (ar 18) D j) 20) (i + 1) := by rw [ez_16]; rfl
                subst ez_16
                refine lv_lstore (lv' := [(10, .long (lft ((ar 12 (20 * D + j)).toInt64) (ptF (ar 18) D j) (dsum (ptF (ar 18) D j) 20) (i + 1))), (12, .int (nI i)), (9, .int (low (ptF (ar 18) D j) 20)), (8, .int (dsum (ptF (ar 18) D j) 20)), (6, .long (((ar 12) (20 * D + j)).toInt64)), (5, .int (nI (20 * (20 * D + j)))), (0, .ref o), (1, .int (nI D)), (2, .int (nI j)), (3, .int q0), (4, .int q1)]) C.1 C.2.1 dX5_partnersTax_131 hl (by decide) rfl (fun ls hl => ?_)
                refine lv_iinc (v := nI (i + 1)) (lv' := [(12, .int (nI (i + 1))), (10, .long (lft ((ar 12 (20 * D + j)).toInt64) (ptF (ar 18) D j) (dsum (ptF (ar 18) D j) 20) (i + 1))), (9, .int (low (ptF (ar 18) D j) 20)), (8, .int (dsum (ptF (ar 18) D j) 20)), (6, .long (((ar 12) (20 * D + j)).toInt64)), (5, .int (nI (20 * (20 * D + j)))), (0, .ref o), (1, .int (nI D)), (2, .int (nI j)), (3, .int q0), (4, .int q1)]) C.1 C.2.1 dX5_partnersTax_133 hl (k := 1) rfl (nI_1 i) (by decide) rfl (fun ls hl => ?_)
                refine lv_goto (tgt := 103) C.1 C.2.1 dX5_partnersTax_136 (by decide) ?_
                exact ih (i + 1) (by omega) (by omega)  _ _ I ls (lv_sub hl [0, 1, 2, 3, 4, 5, 6, 7, 8, 9, 10] rfl)
          exact loop (20 + 1) 0 (Nat.zero_le _) (by omega) _ _ I ls (lv_sub hl [0, 1, 2, 3, 4, 5, 6, 7, 8, 9, 10] rfl)
        · refine lv_lload C.1 C.2.1 dX5_partnersTax_88 (lv_at hl 3 rfl) ?_
          refine lv_bipush (v := 30) C.1 C.2.1 dX5_partnersTax_90 (by decide) ?_
          refine hv_ki I (va_runS (As := [.long (((ar 12) (20 * D + j)).toInt64), .int 30]) (rest := []) C.fix (c_X5_taxOf l G h _ (((ar 12) (20 * D + j)).toInt64) 30) (va_cwS 2 C.2.2.2.2.1 gX5_partnersTax_X5_taxOf rfl rfl rfl (by decide +kernel) ⟨Nat.le_of_ble_eq_true rfl, Nat.le_of_ble_eq_true rfl⟩) (hv_preS C I) rfl rfl hl.1 rfl (lv_room (Nat.le_of_ble_eq_true rfl)) dX5_partnersTax_92 ⟨Nat.le_of_ble_eq_true rfl, Nat.le_of_ble_eq_true rfl⟩) (fun ru_17 u_17 H locs pu_17 I => ?_)
          obtain ⟨e1, e2⟩ := pu_17; have e1 := e1.symm; subst e1; have e2 := e2.symm; subst e2
          exact hv_iret (v := (taxL (((ar 12) (20 * D + j)).toInt64) 30)) C hr I (⟨rfl, by unfold pTx; rw [if_pos c85]⟩) dX5_partnersTax_95 (Nat.le_of_ble_eq_true rfl) (Nat.le_of_ble_eq_true rfl)
      · have hi37 : i < 20 := dix0 hi c37
        refine lv_iload C.1 C.2.1 dX5_partnersTax_40 (lv_at hl 2 rfl) ?_
        refine lv_aload_n C.1 C.2.1 dX5_partnersTax_42 rfl (lv_at hl 5 rfl) ?_
        refine hv_get (ci := 6) (Cn := RX5) (T := TX5) (N := 21) (ref := "DividendDeskModel") (v := .ref (ad 18)) C I hM.1 wX5 rfl 18 (by decide) (by decide +kernel) (fun _ h9 => h9) rfl dX5_partnersTax_43 ?_
        refine lv_iload C.1 C.2.1 dX5_partnersTax_46 (lv_at hl 4 rfl) ?_
        refine lv_iload C.1 C.2.1 dX5_partnersTax_48 (lv_at hl 0 rfl) ?_
        refine lv_iadd C.1 C.2.1 dX5_partnersTax_50 ?_
        refine lv_topi (fun z_18 ez_18 => ?_)
        have ez_18 : z_18 = nI (20 * (20 * D + j) + (19 - i)) := by rw [ez_18]; rw [dix hi37, nI_add]
        subst ez_18
        refine hv_ialdN (n := 16000) (f := ar 18) C I (isM_a hM 18 rfl) (show 20 * (20 * D + j) + (19 - i) < 16000 by omega) (by decide) dX5_partnersTax_51 ?_
        refine lv_iadd C.1 C.2.1 dX5_partnersTax_52 ?_
        refine lv_topi (fun z_19 ez_19 => ?_)
        have ez_19 : z_19 = dsum (ptF (ar 18) D j) (i + 1) := by rw [ez_19]; rfl
        subst ez_19
        refine lv_istore (lv' := [(8, .int (dsum (ptF (ar 18) D j) (i + 1))), (10, .int (nI (20 - i) - 1)), (9, .int (low (ptF (ar 18) D j) i)), (6, .long (((ar 12) (20 * D + j)).toInt64)), (5, .int (nI (20 * (20 * D + j)))), (0, .ref o), (1, .int (nI D)), (2, .int (nI j)), (3, .int q0), (4, .int q1)]) C.1 C.2.1 dX5_partnersTax_53 hl (by decide) rfl (fun ls hl => ?_)
        have J75 : ∀ (z_20 : Int32), z_20 = (low (ptF (ar 18) D j) (i + 1)) → ∀ (H : Heap) (locs : List Loc), hv_I G h s h H locs → W p l e (hv_rm 2 0 0 80) s m (([.ref o, .int (nI D), .int (nI j), .int q0, .int q1] : List Value).toArray) below meth c H locs 0 0 (MQ below (va_Qi (fun r u => u = h ∧ r = pTx dy n (ar 7) (ar 12) (ar 15) (ar 17) (ar 18) D j q0 q1) (hv_Bq G h s.heap.size) (hv_A h s.heap.size)) (([.ref o, .int (nI D), .int (nI j), .int q0, .int q1] : List Value).toArray) s 0 0 (hv_A h s.heap.size)) (F0 m 75 ls [.int z_20]) := by
          intro z_20 ez_20 H locs I; subst ez_20
          refine lv_istore (lv' := [(9, .int (low (ptF (ar 18) D j) (i + 1))), (8, .int (dsum (ptF (ar 18) D j) (i + 1))), (10, .int (nI (20 - i) - 1)), (6, .long (((ar 12) (20 * D + j)).toInt64)), (5, .int (nI (20 * (20 * D + j)))), (0, .ref o), (1, .int (nI D)), (2, .int (nI j)), (3, .int q0), (4, .int q1)]) C.1 C.2.1 dX5_partnersTax_75 hl (by decide) rfl (fun ls hl => ?_)
          refine lv_iinc (v := nI (20 - (i + 1)) - 1) (lv' := [(10, .int (nI (20 - (i + 1)) - 1)), (9, .int (low (ptF (ar 18) D j) (i + 1))), (8, .int (dsum (ptF (ar 18) D j) (i + 1))), (6, .long (((ar 12) (20 * D + j)).toInt64)), (5, .int (nI (20 * (20 * D + j)))), (0, .ref o), (1, .int (nI D)), (2, .int (nI j)), (3, .int q0), (4, .int q1)]) C.1 C.2.1 dX5_partnersTax_77 hl (k := 2) rfl (dixN hi37) (by decide) rfl (fun ls hl => ?_)
          refine lv_goto (tgt := 35) C.1 C.2.1 dX5_partnersTax_80 (by decide) ?_
          exact ih (i + 1) (by omega) (by omega)  _ _ I ls (lv_sub hl [0, 1, 2, 3, 4, 5, 6, 7, 8, 9] rfl)
        refine lv_aload_n C.1 C.2.1 dX5_partnersTax_55 rfl (lv_at hl 5 rfl) ?_
        refine hv_get (ci := 6) (Cn := RX5) (T := TX5) (N := 21) (ref := "DividendDeskModel") (v := .ref (ad 18)) C I hM.1 wX5 rfl 18 (by decide) (by decide +kernel) (fun _ h9 => h9) rfl dX5_partnersTax_56 ?_
        refine lv_iload C.1 C.2.1 dX5_partnersTax_59 (lv_at hl 4 rfl) ?_
        refine lv_iload C.1 C.2.1 dX5_partnersTax_61 (lv_at hl 1 rfl) ?_
        refine lv_iadd C.1 C.2.1 dX5_partnersTax_63 ?_
        refine lv_topi (fun z_21 ez_21 => ?_)
        have ez_21 : z_21 = nI (20 * (20 * D + j) + (19 - i)) := by rw [ez_21]; rw [dix hi37, nI_add]
        subst ez_21
        refine hv_ialdN (n := 16000) (f := ar 18) C I (isM_a hM 18 rfl) (show 20 * (20 * D + j) + (19 - i) < 16000 by omega) (by decide) dX5_partnersTax_64 ?_
        refine lv_if_le (tgt := 73) C.1 C.2.1 dX5_partnersTax_65 (by decide) (fun c65 => ?_) (fun c65 => ?_)
        · refine lv_iload C.1 C.2.1 dX5_partnersTax_73 (lv_at hl 2 rfl) ?_
          exact J75 _ (by show _ = (if _ then _ else _); first | rw [if_pos (show (ptF (ar 18) D j) (19 - i) ≤ 0 from c65)] | (rw [if_neg (show ¬ (ptF (ar 18) D j) (19 - i) ≤ 0 from c65)]; exact dix hi37)) _ _ I
        · refine lv_iload C.1 C.2.1 dX5_partnersTax_68 (lv_at hl 1 rfl) ?_
          refine lv_goto (tgt := 75) C.1 C.2.1 dX5_partnersTax_70 (by decide) ?_
          exact J75 _ (by show _ = (if _ then _ else _); first | rw [if_pos (show (ptF (ar 18) D j) (19 - i) ≤ 0 from c65)] | (rw [if_neg (show ¬ (ptF (ar 18) D j) (19 - i) ≤ 0 from c65)]; exact dix hi37)) _ _ I
  exact loop (20 + 1) 0 (Nat.zero_le _) (by omega) _ _ I ls (lv_sub hl [0, 1, 2, 3, 4, 5, 6, 7, 8, 9] rfl)

set_option maxHeartbeats 4000000 in
set_option maxRecDepth 100000 in
theorem c_X5_tax (l : Launch) (G : hv_G) (h : hv) (sz : Nat) {o : Nat} {ad : Nat → Nat} {dy : Int32} {n d : Nat} {rf : Int64} {th : Int32} {ar : Nat → Nat → Int32} (hM : isM G h o ad dy n d rf th ar) (D : Nat) (hD : D < 40) (j : Nat) (hj : j < 20) (q0 q1 : Int32) (hn : n ≤ 20) : hv_Mi l yX5_tax wsX5_tax 3 120 0 0 G h sz [.ref o, .int (nI D), .int (nI j), .int q0, .int q1] (fun r u => u = h ∧ r = taxF dy n (ar 4) (ar 7) (ar 12) (ar 15) (ar 16) (ar 17) (ar 18) D j q0 q1) := by
  have wX5 : ∀ w ∈ wsX50, w ∈ wsX5_tax := by decide +kernel
  refine hv_enter (y := yX5_tax) (avs := [.ref o, .int (nI D), .int (nI j), .int q0, .int q1]) (maxL := 6) (Qf := fun sz => va_Qi (fun r u => u = h ∧ r = taxF dy n (ar 4) (ar 7) (ar 12) (ar 15) (ar 16) (ar 17) (ar 18) D j q0 q1) (hv_Bq G h sz) (hv_A h sz)) (by decide) rfl rfl (Nat.le_of_ble_eq_true rfl) ?_
  intro p e s m below meth c hr hnm C I ls hl
  have hl : lv_has ls 6 [(0, .ref o), (1, .int (nI D)), (2, .int (nI j)), (3, .int q0), (4, .int q1)] := hl
  refine lv_aload_n C.1 C.2.1 dX5_tax_0 rfl (lv_at hl 0 rfl) ?_
  refine hv_get (ci := 6) (Cn := RX5) (T := TX5) (N := 21) (ref := "DividendDeskModel") (v := .ref (ad 4)) C I hM.1 wX5 rfl 4 (by decide) (by decide +kernel) (fun _ h9 => h9) rfl dX5_tax_1 ?_
  refine lv_iload_n C.1 C.2.1 dX5_tax_4 rfl (lv_at hl 2 rfl) ?_
  refine hv_ialdN (n := 20) (f := ar 4) C I (isM_a hM 4 rfl) hj (by decide) dX5_tax_5 ?_
  refine lv_iconst (v := 2) C.1 C.2.1 dX5_tax_6 (by decide) ?_
  refine lv_icmp_ne (tgt := 20) C.1 C.2.1 dX5_tax_7 (by decide) (fun c7 => ?_) (fun c7 => ?_)
  · refine lv_bipush (v := 20) C.1 C.2.1 dX5_tax_20 (by decide) ?_
    refine lv_iload_n C.1 C.2.1 dX5_tax_22 rfl (lv_at hl 1 rfl) ?_
    refine lv_imul C.1 C.2.1 dX5_tax_23 ?_
    refine lv_iload_n C.1 C.2.1 dX5_tax_24 rfl (lv_at hl 2 rfl) ?_
    refine lv_iadd C.1 C.2.1 dX5_tax_25 ?_
    refine lv_topi (fun z_1 ez_1 => ?_)
    have ez_1 : z_1 = nI (20 * D + j) := by rw [ez_1]; exact ixN D j
    subst ez_1
    refine lv_istore (lv' := [(5, .int (nI (20 * D + j))), (0, .ref o), (1, .int (nI D)), (2, .int (nI j)), (3, .int q0), (4, .int q1)]) C.1 C.2.1 dX5_tax_26 hl (by decide) rfl (fun ls hl => ?_)
    refine lv_aload_n C.1 C.2.1 dX5_tax_28 rfl (lv_at hl 1 rfl) ?_
    refine hv_get (ci := 6) (Cn := RX5) (T := TX5) (N := 21) (ref := "DividendDeskModel") (v := .ref (ad 12)) C I hM.1 wX5 rfl 12 (by decide) (by decide +kernel) (fun _ h9 => h9) rfl dX5_tax_29 ?_
    refine lv_iload C.1 C.2.1 dX5_tax_32 (lv_at hl 0 rfl) ?_
    refine hv_ialdN (n := 800) (f := ar 12) C I (isM_a hM 12 rfl) (show 20 * D + j < 800 by omega) (by decide) dX5_tax_34 ?_
    refine lv_i2l C.1 C.2.1 dX5_tax_35 rfl ?_
    have J60 : ∀ (z_2 : Int32), z_2 = (if cnt dy (ar 7 j) (ar 17 (20 * D + j)) q0 q1 = 0 then 30 else ar 16 (20 * D + j)) → ∀ (H : Heap) (locs : List Loc), hv_I G h s h H locs → W p l e (hv_rm 3 0 0 120) s m (([.ref o, .int (nI D), .int (nI j), .int q0, .int q1] : List Value).toArray) below meth c H locs 0 0 (MQ below (va_Qi (fun r u => u = h ∧ r = taxF dy n (ar 4) (ar 7) (ar 12) (ar 15) (ar 16) (ar 17) (ar 18) D j q0 q1) (hv_Bq G h s.heap.size) (hv_A h s.heap.size)) (([.ref o, .int (nI D), .int (nI j), .int q0, .int q1] : List Value).toArray) s 0 0 (hv_A h s.heap.size)) (F0 m 60 ls [.int z_2, .long (((ar 12) (20 * D + j)).toInt64)]) := by
      intro z_2 ez_2 H locs I; subst ez_2
      refine hv_ki I (va_runS (As := [.long (((ar 12) (20 * D + j)).toInt64), .int (if cnt dy (ar 7 j) (ar 17 (20 * D + j)) q0 q1 = 0 then 30 else ar 16 (20 * D + j))]) (rest := []) C.fix (c_X5_taxOf l G h _ (((ar 12) (20 * D + j)).toInt64) (if cnt dy (ar 7 j) (ar 17 (20 * D + j)) q0 q1 = 0 then 30 else ar 16 (20 * D + j))) (va_cwS 2 C.2.2.2.2.1 gX5_tax_X5_taxOf rfl rfl rfl (by decide +kernel) ⟨Nat.le_of_ble_eq_true rfl, Nat.le_of_ble_eq_true rfl⟩) (hv_preS C I) rfl rfl hl.1 rfl (lv_room (Nat.le_of_ble_eq_true rfl)) dX5_tax_60 ⟨Nat.le_of_ble_eq_true rfl, Nat.le_of_ble_eq_true rfl⟩) (fun ru_3 u_3 H locs pu_3 I => ?_)
      obtain ⟨e1, e2⟩ := pu_3; have e1 := e1.symm; subst e1; have e2 := e2.symm; subst e2
      exact hv_iret (v := (taxL (((ar 12) (20 * D + j)).toInt64) (if cnt dy (ar 7 j) (ar 17 (20 * D + j)) q0 q1 = 0 then 30 else ar 16 (20 * D + j)))) C hr I (⟨rfl, by unfold taxF; first | (simp [c7]; done) | ((repeat' split) <;> first | rfl | contradiction)⟩) dX5_tax_63 (Nat.le_of_ble_eq_true rfl) (Nat.le_of_ble_eq_true rfl)
    refine lv_aload_n C.1 C.2.1 dX5_tax_36 rfl (lv_at hl 1 rfl) ?_
    refine lv_iload_n C.1 C.2.1 dX5_tax_37 rfl (lv_at hl 2 rfl) ?_
    refine lv_iload_n C.1 C.2.1 dX5_tax_38 rfl (lv_at hl 3 rfl) ?_
    refine lv_iload_n C.1 C.2.1 dX5_tax_39 rfl (lv_at hl 4 rfl) ?_
    refine lv_iload C.1 C.2.1 dX5_tax_40 (lv_at hl 5 rfl) ?_
    refine hv_ki I (va_runV (As := [.int (nI D), .int (nI j), .int q0, .int q1]) (rest := [.long (((ar 12) (20 * D + j)).toInt64)]) C.fix (c_X5_counts l G h _ hM D hD j hj q0 q1) (cwV 4 C.2.2.2.2.1 gX5_tax_X5_counts rfl rfl rfl (by decide +kernel) ⟨Nat.le_of_ble_eq_true rfl, Nat.le_of_ble_eq_true rfl⟩) (hv_preV C I hM.1 (r := (RX5, TX5, 21)) rfl) rfl rfl hl.1 rfl (lv_room (Nat.le_of_ble_eq_true rfl)) dX5_tax_42 ⟨Nat.le_of_ble_eq_true rfl, Nat.le_of_ble_eq_true rfl⟩) (fun ru_4 u_4 H locs pu_4 I => ?_)
    obtain ⟨e1, e2⟩ := pu_4; have e1 := e1.symm; subst e1; have e2 := e2.symm; subst e2
    refine lv_if_eq (tgt := 58) C.1 C.2.1 dX5_tax_45 (by decide) (fun c45 => ?_) (fun c45 => ?_)
    · refine lv_bipush (v := 30) C.1 C.2.1 dX5_tax_58 (by decide) ?_
      exact J60 _ (by first | (simp [c45]; done) | ((repeat' split) <;> first | rfl | contradiction)) _ _ I
    · refine lv_aload_n C.1 C.2.1 dX5_tax_48 rfl (lv_at hl 1 rfl) ?_
      refine hv_get (ci := 6) (Cn := RX5) (T := TX5) (N := 21) (ref := "DividendDeskModel") (v := .ref (ad 16)) C I hM.1 wX5 rfl 16 (by decide) (by decide +kernel) (fun _ h9 => h9) rfl dX5_tax_49 ?_
      refine lv_iload C.1 C.2.1 dX5_tax_52 (lv_at hl 0 rfl) ?_
      refine hv_ialdN (n := 800) (f := ar 16) C I (isM_a hM 16 rfl) (show 20 * D + j < 800 by omega) (by decide) dX5_tax_54 ?_
      refine lv_goto (tgt := 60) C.1 C.2.1 dX5_tax_55 (by decide) ?_
      exact J60 _ (by first | (simp [c45]; done) | ((repeat' split) <;> first | rfl | contradiction)) _ _ I
  · refine lv_aload_n C.1 C.2.1 dX5_tax_10 rfl (lv_at hl 0 rfl) ?_
    refine lv_iload_n C.1 C.2.1 dX5_tax_11 rfl (lv_at hl 1 rfl) ?_
    refine lv_iload_n C.1 C.2.1 dX5_tax_12 rfl (lv_at hl 2 rfl) ?_
    refine lv_iload_n C.1 C.2.1 dX5_tax_13 rfl (lv_at hl 3 rfl) ?_
    refine lv_iload C.1 C.2.1 dX5_tax_14 (lv_at hl 4 rfl) ?_
    refine hv_ki I (va_runV (As := [.int (nI D), .int (nI j), .int q0, .int q1]) (rest := []) C.fix (c_X5_partnersTax l G h _ hM D hD j hj q0 q1 hn) (cwV 4 C.2.2.2.2.1 gX5_tax_X5_partnersTax rfl rfl rfl (by decide +kernel) ⟨Nat.le_of_ble_eq_true rfl, Nat.le_of_ble_eq_true rfl⟩) (hv_preV C I hM.1 (r := (RX5, TX5, 21)) rfl) rfl rfl hl.1 rfl (lv_room (Nat.le_of_ble_eq_true rfl)) dX5_tax_16 ⟨Nat.le_of_ble_eq_true rfl, Nat.le_of_ble_eq_true rfl⟩) (fun ru_5 u_5 H locs pu_5 I => ?_)
    obtain ⟨e1, e2⟩ := pu_5; have e1 := e1.symm; subst e1; have e2 := e2.symm; subst e2
    exact hv_iret (v := (pTx dy n (ar 7) (ar 12) (ar 15) (ar 17) (ar 18) D j q0 q1)) C hr I (⟨rfl, by unfold taxF; first | (simp [c7]; done) | ((repeat' split) <;> first | rfl | contradiction)⟩) dX5_tax_19 (Nat.le_of_ble_eq_true rfl) (Nat.le_of_ble_eq_true rfl)

theorem c_X5_tax_p (l : Launch) (G : hv_G) (h : hv) (sz : Nat) {o : Nat} {ad : Nat → Nat} {dy : Int32} {n d : Nat} {rf : Int64} {th : Int32} {ar : Nat → Nat → Int32} (hM : isM G h o ad dy n d rf th ar) (p0 : Int32) (hp0 : vp_in p0 40) (p1 : Int32) (hp1 : vp_in p1 20) (hn : n ≤ 20) (q0 q1 : Int32) : hv_Mi l yX5_tax wsX5_tax 3 120 0 0 G h sz [.ref o, .int p0, .int p1, .int q0, .int q1] (fun r u => u = h ∧ r = taxF dy n (ar 4) (ar 7) (ar 12) (ar 15) (ar 16) (ar 17) (ar 18) p0.toNatClampNeg p1.toNatClampNeg q0 q1) := by
  obtain ⟨D, hD, rfl⟩ := vp_in_of hp0 (by decide)
  obtain ⟨j, hj, rfl⟩ := vp_in_of hp1 (by decide)
  simp only [nI_clamp (show D < 2 ^ 31 by omega), nI_clamp (show j < 2 ^ 31 by omega)]
  exact c_X5_tax l G h sz hM D hD j hj q0 q1 hn

set_option maxHeartbeats 4000000 in
set_option maxRecDepth 100000 in
theorem c_X5_isOver (l : Launch) (G : hv_G) (h : hv) (sz : Nat) {o : Nat} {ad : Nat → Nat} {dy : Int32} {n d : Nat} {rf : Int64} {th : Int32} {ar : Nat → Nat → Int32} (hM : isM G h o ad dy n d rf th ar) (D : Nat) (hD : D < 40) (j : Nat) (hj : j < 20) (q0 : Int32) : hv_Mi l yX5_isOver wsX5_isOver 0 0 0 0 G h sz [.ref o, .int (nI D), .int (nI j), .int q0] (fun r u => u = h ∧ r = ovF (ar 12 (20 * D + j)) (ar 11 D) dy q0) := by
  have wX5 : ∀ w ∈ wsX50, w ∈ wsX5_isOver := by decide +kernel
  refine hv_enter (y := yX5_isOver) (avs := [.ref o, .int (nI D), .int (nI j), .int q0]) (maxL := 4) (Qf := fun sz => va_Qi (fun r u => u = h ∧ r = ovF (ar 12 (20 * D + j)) (ar 11 D) dy q0) (hv_Bq G h sz) (hv_A h sz)) (by decide) rfl rfl (Nat.le_of_ble_eq_true rfl) ?_
  intro p e s m below meth c hr hnm C I ls hl
  have hl : lv_has ls 4 [(0, .ref o), (1, .int (nI D)), (2, .int (nI j)), (3, .int q0)] := hl
  refine lv_aload_n C.1 C.2.1 dX5_isOver_0 rfl (lv_at hl 0 rfl) ?_
  refine hv_get (ci := 6) (Cn := RX5) (T := TX5) (N := 21) (ref := "DividendDeskModel") (v := .ref (ad 12)) C I hM.1 wX5 rfl 12 (by decide) (by decide +kernel) (fun _ h9 => h9) rfl dX5_isOver_1 ?_
  refine lv_bipush (v := 20) C.1 C.2.1 dX5_isOver_4 (by decide) ?_
  refine lv_iload_n C.1 C.2.1 dX5_isOver_6 rfl (lv_at hl 1 rfl) ?_
  refine lv_imul C.1 C.2.1 dX5_isOver_7 ?_
  refine lv_iload_n C.1 C.2.1 dX5_isOver_8 rfl (lv_at hl 2 rfl) ?_
  refine lv_iadd C.1 C.2.1 dX5_isOver_9 ?_
  refine lv_topi (fun z_1 ez_1 => ?_)
  have ez_1 : z_1 = nI (20 * D + j) := by rw [ez_1]; exact ixN D j
  subst ez_1
  refine hv_ialdN (n := 800) (f := ar 12) C I (isM_a hM 12 rfl) (show 20 * D + j < 800 by omega) (by decide) dX5_isOver_10 ?_
  refine lv_if_eq (tgt := 29) C.1 C.2.1 dX5_isOver_11 (by decide) (fun c11 => ?_) (fun c11 => ?_)
  · refine lv_iconst (v := 1) C.1 C.2.1 dX5_isOver_29 (by decide) ?_
    refine lv_goto (tgt := 34) C.1 C.2.1 dX5_isOver_30 (by decide) ?_
    exact hv_zret (v := 1) C hr I rfl (⟨rfl, by unfold ovF; first | (simp [c11]; done) | ((repeat' split) <;> first | rfl | contradiction)⟩) dX5_isOver_34 (Nat.le_of_ble_eq_true rfl) (Nat.le_of_ble_eq_true rfl)
  · refine lv_aload_n C.1 C.2.1 dX5_isOver_14 rfl (lv_at hl 0 rfl) ?_
    refine hv_get (ci := 6) (Cn := RX5) (T := TX5) (N := 21) (ref := "DividendDeskModel") (v := .int dy) C I hM.1 wX5 rfl 0 (by decide) (by decide +kernel) (fun _ h9 => h9) rfl dX5_isOver_15 ?_
    refine lv_aload_n C.1 C.2.1 dX5_isOver_18 rfl (lv_at hl 0 rfl) ?_
    refine hv_get (ci := 6) (Cn := RX5) (T := TX5) (N := 21) (ref := "DividendDeskModel") (v := .ref (ad 11)) C I hM.1 wX5 rfl 11 (by decide) (by decide +kernel) (fun _ h9 => h9) rfl dX5_isOver_19 ?_
    refine lv_iload_n C.1 C.2.1 dX5_isOver_22 rfl (lv_at hl 1 rfl) ?_
    refine hv_ialdN (n := 40) (f := ar 11) C I (isM_a hM 11 rfl) hD (by decide) dX5_isOver_23 ?_
    refine lv_isub C.1 C.2.1 dX5_isOver_24 ?_
    refine lv_iload_n C.1 C.2.1 dX5_isOver_25 rfl (lv_at hl 3 rfl) ?_
    refine lv_icmp_le (tgt := 33) C.1 C.2.1 dX5_isOver_26 (by decide) (fun c26 => ?_) (fun c26 => ?_)
    · refine lv_iconst (v := 0) C.1 C.2.1 dX5_isOver_33 (by decide) ?_
      exact hv_zret (v := 0) C hr I rfl (⟨rfl, by unfold ovF; first | (simp [c11, c26]; done) | ((repeat' split) <;> first | rfl | contradiction)⟩) dX5_isOver_34 (Nat.le_of_ble_eq_true rfl) (Nat.le_of_ble_eq_true rfl)
    · refine lv_iconst (v := 1) C.1 C.2.1 dX5_isOver_29 (by decide) ?_
      refine lv_goto (tgt := 34) C.1 C.2.1 dX5_isOver_30 (by decide) ?_
      exact hv_zret (v := 1) C hr I rfl (⟨rfl, by unfold ovF; first | (simp [c11, c26]; done) | ((repeat' split) <;> first | rfl | contradiction)⟩) dX5_isOver_34 (Nat.le_of_ble_eq_true rfl) (Nat.le_of_ble_eq_true rfl)

theorem c_X5_isOver_p (l : Launch) (G : hv_G) (h : hv) (sz : Nat) {o : Nat} {ad : Nat → Nat} {dy : Int32} {n d : Nat} {rf : Int64} {th : Int32} {ar : Nat → Nat → Int32} (hM : isM G h o ad dy n d rf th ar) (p0 : Int32) (hp0 : vp_in p0 40) (p1 : Int32) (hp1 : vp_in p1 20) (q0 : Int32) : hv_Mi l yX5_isOver wsX5_isOver 0 0 0 0 G h sz [.ref o, .int p0, .int p1, .int q0] (fun r u => u = h ∧ r = ovF (ar 12 (20 * p0.toNatClampNeg + p1.toNatClampNeg)) (ar 11 p0.toNatClampNeg) dy q0) := by
  obtain ⟨D, hD, rfl⟩ := vp_in_of hp0 (by decide)
  obtain ⟨j, hj, rfl⟩ := vp_in_of hp1 (by decide)
  simp only [nI_clamp (show D < 2 ^ 31 by omega), nI_clamp (show j < 2 ^ 31 by omega)]
  exact c_X5_isOver l G h sz hM D hD j hj q0

set_option maxHeartbeats 4000000 in
set_option maxRecDepth 100000 in
theorem c_X5_gives (l : Launch) (G : hv_G) (h : hv) (sz : Nat) {o : Nat} {ad : Nat → Nat} {dy : Int32} {n d : Nat} {rf : Int64} {th : Int32} {ar : Nat → Nat → Int32} (hM : isM G h o ad dy n d rf th ar) (D : Nat) (hD : D < 40) (j : Nat) (hj : j < 20) (q0 : Int32) : hv_Mi l yX5_gives wsX5_gives 0 0 0 0 G h sz [.ref o, .int (nI D), .int (nI j), .int q0] (fun r u => r = mor (ar 13 (20 * D + j)) q0 ∧ isM G u o ad dy n d (rf + (mor (ar 13 (20 * D + j)) q0).toInt64) th (va_up ar 13 (upd (ar 13) (20 * D + j) ((ar 13 (20 * D + j)) - mor (ar 13 (20 * D + j)) q0)))) := by
  have wX5 : ∀ w ∈ wsX50, w ∈ wsX5_gives := by decide +kernel
  refine hv_enter (y := yX5_gives) (avs := [.ref o, .int (nI D), .int (nI j), .int q0]) (maxL := 6) (Qf := fun sz => va_Qi (fun r u => r = mor (ar 13 (20 * D + j)) q0 ∧ isM G u o ad dy n d (rf + (mor (ar 13 (20 * D + j)) q0).toInt64) th (va_up ar 13 (upd (ar 13) (20 * D + j) ((ar 13 (20 * D + j)) - mor (ar 13 (20 * D + j)) q0)))) (hv_Bq G h sz) (hv_A h sz)) (by decide) rfl rfl (Nat.le_of_ble_eq_true rfl) ?_
  intro p e s m below meth c hr hnm C I ls hl
  have hl : lv_has ls 6 [(0, .ref o), (1, .int (nI D)), (2, .int (nI j)), (3, .int q0)] := hl
  refine lv_bipush (v := 20) C.1 C.2.1 dX5_gives_0 (by decide) ?_
  refine lv_iload_n C.1 C.2.1 dX5_gives_2 rfl (lv_at hl 1 rfl) ?_
  refine lv_imul C.1 C.2.1 dX5_gives_3 ?_
  refine lv_iload_n C.1 C.2.1 dX5_gives_4 rfl (lv_at hl 2 rfl) ?_
  refine lv_iadd C.1 C.2.1 dX5_gives_5 ?_
  refine lv_topi (fun z_1 ez_1 => ?_)
  have ez_1 : z_1 = nI (20 * D + j) := by rw [ez_1]; exact ixN D j
  subst ez_1
  refine lv_istore (lv' := [(4, .int (nI (20 * D + j))), (0, .ref o), (1, .int (nI D)), (2, .int (nI j)), (3, .int q0)]) C.1 C.2.1 dX5_gives_6 hl (by decide) rfl (fun ls hl => ?_)
  have J32 : ∀ (z_2 : Int32), z_2 = (mor (ar 13 (20 * D + j)) q0) → ∀ (H : Heap) (locs : List Loc), hv_I G h s h H locs → W p l e (hv_rm 0 0 0 0) s m (([.ref o, .int (nI D), .int (nI j), .int q0] : List Value).toArray) below meth c H locs 0 0 (MQ below (va_Qi (fun r u => r = mor (ar 13 (20 * D + j)) q0 ∧ isM G u o ad dy n d (rf + (mor (ar 13 (20 * D + j)) q0).toInt64) th (va_up ar 13 (upd (ar 13) (20 * D + j) ((ar 13 (20 * D + j)) - mor (ar 13 (20 * D + j)) q0)))) (hv_Bq G h s.heap.size) (hv_A h s.heap.size)) (([.ref o, .int (nI D), .int (nI j), .int q0] : List Value).toArray) s 0 0 (hv_A h s.heap.size)) (F0 m 32 ls [.int z_2]) := by
    intro z_2 ez_2 H locs I; subst ez_2
    refine lv_istore (lv' := [(5, .int (mor (ar 13 (20 * D + j)) q0)), (4, .int (nI (20 * D + j))), (0, .ref o), (1, .int (nI D)), (2, .int (nI j)), (3, .int q0)]) C.1 C.2.1 dX5_gives_32 hl (by decide) rfl (fun ls hl => ?_)
    refine lv_aload_n C.1 C.2.1 dX5_gives_34 rfl (lv_at hl 2 rfl) ?_
    refine hv_get (ci := 6) (Cn := RX5) (T := TX5) (N := 21) (ref := "DividendDeskModel") (v := .ref (ad 13)) C I hM.1 wX5 rfl 13 (by decide) (by decide +kernel) (fun _ h9 => h9) rfl dX5_gives_35 ?_
    refine lv_iload C.1 C.2.1 dX5_gives_38 (lv_at hl 1 rfl) ?_
    refine lv_dup2_11 C.1 C.2.1 dX5_gives_40 rfl rfl ?_
    refine hv_ialdN (n := 800) (f := ar 13) C I (isM_a hM 13 rfl) (show 20 * D + j < 800 by omega) (by decide) dX5_gives_41 ?_
    refine lv_iload C.1 C.2.1 dX5_gives_42 (lv_at hl 0 rfl) ?_
    refine lv_isub C.1 C.2.1 dX5_gives_44 ?_
    refine hv_iastN (n := 800) (f := ar 13) C I (isM_a hM 13 rfl) (show 20 * D + j < 800 by omega) (by decide) dX5_gives_45 (fun H locs I => ?_)
    obtain ⟨h_3, eh_3⟩ : ∃ z, z = hv_up h (ad 13) (.inl (G.2.1 0, 800, .inl (upd (ar 13) (20 * D + j) (((ar 13) (20 * D + j)) - (mor (ar 13 (20 * D + j)) q0))))) := ⟨_, rfl⟩
    have I : hv_I G h s h_3 H locs := by rw [eh_3]; exact I
    have hM : isM G h_3 o ad dy n d rf th (va_up ar 13 (upd (ar 13) (20 * D + j) (((ar 13) (20 * D + j)) - (mor (ar 13 (20 * D + j)) q0)))) := isM_st hM 13 rfl eh_3
    refine lv_aload_n C.1 C.2.1 dX5_gives_46 rfl (lv_at hl 2 rfl) ?_
    refine lv_dup C.1 C.2.1 dX5_gives_47 rfl ?_
    refine hv_get (ci := 6) (Cn := RX5) (T := TX5) (N := 21) (ref := "DividendDeskModel") (v := .long rf) C I hM.1 wX5 rfl 19 (by decide) (by decide +kernel) (fun _ h9 => h9) rfl dX5_gives_48 ?_
    refine lv_iload C.1 C.2.1 dX5_gives_51 (lv_at hl 0 rfl) ?_
    refine lv_i2l C.1 C.2.1 dX5_gives_53 rfl ?_
    refine lv_ladd C.1 C.2.1 dX5_gives_54 ?_
    refine hv_put (ci := 6) (Cn := RX5) (T := TX5) (N := 21) (ref := "DividendDeskModel") (ty := .long) (v := .long (rf + ((mor (ar 13 (20 * D + j)) q0).toInt64))) C I hM.1 wX5 tyX5 tyX5_ok nmX5 rfl 19 (by decide) (by decide +kernel) (fun _ h9 => h9) rfl (by decide +kernel) rfl rfl (Nat.le_of_ble_eq_true rfl) dX5_gives_55 (fun H locs I => ?_)
    have I : hv_I G h s (hv_up h_3 o (.inr (6, [.int dy, .ref (ad 1), .ref (ad 2), .int (nI n), .ref (ad 4), .ref (ad 5), .ref (ad 6), .ref (ad 7), .ref (ad 8), .ref (ad 9), .int (nI d), .ref (ad 11), .ref (ad 12), .ref (ad 13), .ref (ad 14), .ref (ad 15), .ref (ad 16), .ref (ad 17), .ref (ad 18), .long (rf + ((mor (ar 13 (20 * D + j)) q0).toInt64)), .int th]))) H locs := I
    obtain ⟨h_4, eh_4⟩ : ∃ z, z = hv_up h_3 o (.inr (6, [.int dy, .ref (ad 1), .ref (ad 2), .int (nI n), .ref (ad 4), .ref (ad 5), .ref (ad 6), .ref (ad 7), .ref (ad 8), .ref (ad 9), .int (nI d), .ref (ad 11), .ref (ad 12), .ref (ad 13), .ref (ad 14), .ref (ad 15), .ref (ad 16), .ref (ad 17), .ref (ad 18), .long (rf + ((mor (ar 13 (20 * D + j)) q0).toInt64)), .int th])) := ⟨_, rfl⟩
    have I : hv_I G h s h_4 H locs := by rw [eh_4]; exact I
    have hM : isM G h_4 o ad dy n d (rf + ((mor (ar 13 (20 * D + j)) q0).toInt64)) th (va_up ar 13 (upd (ar 13) (20 * D + j) (((ar 13) (20 * D + j)) - (mor (ar 13 (20 * D + j)) q0)))) := isM_o hM eh_4
    refine lv_iload C.1 C.2.1 dX5_gives_58 (lv_at hl 0 rfl) ?_
    exact hv_iret (v := (mor (ar 13 (20 * D + j)) q0)) C hr I (⟨rfl, hM⟩) dX5_gives_60 (Nat.le_of_ble_eq_true rfl) (Nat.le_of_ble_eq_true rfl)
  refine lv_aload_n C.1 C.2.1 dX5_gives_8 rfl (lv_at hl 1 rfl) ?_
  refine hv_get (ci := 6) (Cn := RX5) (T := TX5) (N := 21) (ref := "DividendDeskModel") (v := .ref (ad 13)) C I hM.1 wX5 rfl 13 (by decide) (by decide +kernel) (fun _ h9 => h9) rfl dX5_gives_9 ?_
  refine lv_iload C.1 C.2.1 dX5_gives_12 (lv_at hl 0 rfl) ?_
  refine hv_ialdN (n := 800) (f := ar 13) C I (isM_a hM 13 rfl) (show 20 * D + j < 800 by omega) (by decide) dX5_gives_14 ?_
  refine lv_iload_n C.1 C.2.1 dX5_gives_15 rfl (lv_at hl 4 rfl) ?_
  refine lv_icmp_le (tgt := 31) C.1 C.2.1 dX5_gives_16 (by decide) (fun c16 => ?_) (fun c16 => ?_)
  · refine lv_iconst (v := 0) C.1 C.2.1 dX5_gives_31 (by decide) ?_
    exact J32 _ (by unfold mor; first | (simp [c16]; done) | ((repeat' split) <;> first | rfl | contradiction)) _ _ I
  · refine lv_aload_n C.1 C.2.1 dX5_gives_19 rfl (lv_at hl 1 rfl) ?_
    refine hv_get (ci := 6) (Cn := RX5) (T := TX5) (N := 21) (ref := "DividendDeskModel") (v := .ref (ad 13)) C I hM.1 wX5 rfl 13 (by decide) (by decide +kernel) (fun _ h9 => h9) rfl dX5_gives_20 ?_
    refine lv_iload C.1 C.2.1 dX5_gives_23 (lv_at hl 0 rfl) ?_
    refine hv_ialdN (n := 800) (f := ar 13) C I (isM_a hM 13 rfl) (show 20 * D + j < 800 by omega) (by decide) dX5_gives_25 ?_
    refine lv_iload_n C.1 C.2.1 dX5_gives_26 rfl (lv_at hl 4 rfl) ?_
    refine lv_isub C.1 C.2.1 dX5_gives_27 ?_
    refine lv_goto (tgt := 32) C.1 C.2.1 dX5_gives_28 (by decide) ?_
    exact J32 _ (by unfold mor; first | (simp [c16]; done) | ((repeat' split) <;> first | rfl | contradiction)) _ _ I

theorem c_X5_gives_p (l : Launch) (G : hv_G) (h : hv) (sz : Nat) {o : Nat} {ad : Nat → Nat} {dy : Int32} {n d : Nat} {rf : Int64} {th : Int32} {ar : Nat → Nat → Int32} (hM : isM G h o ad dy n d rf th ar) (p0 : Int32) (hp0 : vp_in p0 40) (p1 : Int32) (hp1 : vp_in p1 20) (q0 : Int32) : hv_Mi l yX5_gives wsX5_gives 0 0 0 0 G h sz [.ref o, .int p0, .int p1, .int q0] (fun r u => r = mor (ar 13 (20 * p0.toNatClampNeg + p1.toNatClampNeg)) q0 ∧ isM G u o ad dy n d (rf + (mor (ar 13 (20 * p0.toNatClampNeg + p1.toNatClampNeg)) q0).toInt64) th (va_up ar 13 (upd (ar 13) (20 * p0.toNatClampNeg + p1.toNatClampNeg) ((ar 13 (20 * p0.toNatClampNeg + p1.toNatClampNeg)) - mor (ar 13 (20 * p0.toNatClampNeg + p1.toNatClampNeg)) q0)))) := by
  obtain ⟨D, hD, rfl⟩ := vp_in_of hp0 (by decide)
  obtain ⟨j, hj, rfl⟩ := vp_in_of hp1 (by decide)
  simp only [nI_clamp (show D < 2 ^ 31 by omega), nI_clamp (show j < 2 ^ 31 by omega)]
  exact c_X5_gives l G h sz hM D hD j hj q0

set_option maxHeartbeats 4000000 in
set_option maxRecDepth 100000 in
theorem c_X5_heldInAll (l : Launch) (G : hv_G) (h : hv) (sz : Nat) {o : Nat} {ad : Nat → Nat} {dy : Int32} {n d : Nat} {rf : Int64} {th : Int32} {ar : Nat → Nat → Int32} (hM : isM G h o ad dy n d rf th ar) : hv_Ml l yX5_heldInAll wsX5_heldInAll 0 0 0 0 G h sz [.ref o] (fun r u => r = hsum (ar 13) 800 ∧ isM G u o ad dy n d rf 0 ar) := by
  have wX5 : ∀ w ∈ wsX50, w ∈ wsX5_heldInAll := by decide +kernel
  refine hv_enter (y := yX5_heldInAll) (avs := [.ref o]) (maxL := 4) (Qf := fun sz => va_Ql (fun r u => r = hsum (ar 13) 800 ∧ isM G u o ad dy n d rf 0 ar) (hv_Bq G h sz) (hv_A h sz)) (by decide) rfl rfl (Nat.le_of_ble_eq_true rfl) ?_
  intro p e s m below meth c hr hnm C I ls hl
  have hl : lv_has ls 4 [(0, .ref o)] := hl
  refine lv_aload_n C.1 C.2.1 dX5_heldInAll_0 rfl (lv_at hl 0 rfl) ?_
  refine lv_iconst (v := 0) C.1 C.2.1 dX5_heldInAll_1 (by decide) ?_
  refine hv_put (ci := 6) (Cn := RX5) (T := TX5) (N := 21) (ref := "DividendDeskModel") (ty := .int) (v := .int 0) C I hM.1 wX5 tyX5 tyX5_ok nmX5 rfl 20 (by decide) (by decide +kernel) (fun _ h9 => h9) rfl (by decide +kernel) rfl rfl (Nat.le_of_ble_eq_true rfl) dX5_heldInAll_2 (fun H locs I => ?_)
  have I : hv_I G h s (hv_up h o (.inr (6, [.int dy, .ref (ad 1), .ref (ad 2), .int (nI n), .ref (ad 4), .ref (ad 5), .ref (ad 6), .ref (ad 7), .ref (ad 8), .ref (ad 9), .int (nI d), .ref (ad 11), .ref (ad 12), .ref (ad 13), .ref (ad 14), .ref (ad 15), .ref (ad 16), .ref (ad 17), .ref (ad 18), .long rf, .int 0]))) H locs := I
  obtain ⟨h_1, eh_1⟩ : ∃ z, z = hv_up h o (.inr (6, [.int dy, .ref (ad 1), .ref (ad 2), .int (nI n), .ref (ad 4), .ref (ad 5), .ref (ad 6), .ref (ad 7), .ref (ad 8), .ref (ad 9), .int (nI d), .ref (ad 11), .ref (ad 12), .ref (ad 13), .ref (ad 14), .ref (ad 15), .ref (ad 16), .ref (ad 17), .ref (ad 18), .long rf, .int 0])) := ⟨_, rfl⟩
  have I : hv_I G h s h_1 H locs := by rw [eh_1]; exact I
  have hM : isM G h_1 o ad dy n d rf 0 ar := isM_o hM eh_1
  refine lv_lconst (v := 0) C.1 C.2.1 dX5_heldInAll_5 (by decide) ?_
  refine lv_lstore_n (lv' := [(1, .long 0), (0, .ref o)]) C.1 C.2.1 dX5_heldInAll_6 rfl hl (by decide) rfl (fun ls hl => ?_)
  refine lv_iconst (v := 0) C.1 C.2.1 dX5_heldInAll_7 (by decide) ?_
  refine lv_istore_n (lv' := [(3, .int 0), (1, .long 0), (0, .ref o)]) C.1 C.2.1 dX5_heldInAll_8 rfl hl (by decide) rfl (fun ls hl => ?_)
  have loop : ∀ (k9 i : Nat) , i ≤ 800 → 800 + 1 ≤ i + k9 → ∀ (H : Heap) (locs : List Loc), hv_I G h s h_1 H locs → ∀ ls : Array Slot, lv_has ls 4 [(3, .int (nI i)), (1, .long (hsum (ar 13) i)), (0, .ref o)] → W p l e (hv_rm 0 0 0 0) s m (([.ref o] : List Value).toArray) below meth c H locs 0 0 (MQ below (va_Ql (fun r u => r = hsum (ar 13) 800 ∧ isM G u o ad dy n d rf 0 ar) (hv_Bq G h s.heap.size) (hv_A h s.heap.size)) (([.ref o] : List Value).toArray) s 0 0 (hv_A h s.heap.size)) (F0 m 9 ls []) := by
    intro k9
    induction k9 with
    | zero => intro i hi hin; exact absurd hin (by omega)
    | succ k9 ih =>
      intro i hi hin H locs I ls hl
      refine lv_iload_n C.1 C.2.1 dX5_heldInAll_9 rfl (lv_at hl 0 rfl) ?_
      refine lv_sipush (v := 800) C.1 C.2.1 dX5_heldInAll_10 (by decide) ?_
      refine lv_icmp_ge (tgt := 32) C.1 C.2.1 dX5_heldInAll_13 (by decide) (fun c13 => ?_) (fun c13 => ?_)
      · have hi13 : i = 800 := Nat.le_antisymm hi (hv_leN (n := 800) (by decide) (by omega) c13)
        subst hi13
        refine lv_lload_n C.1 C.2.1 dX5_heldInAll_32 rfl (lv_at hl 1 rfl) ?_
        exact hv_lret (v := (hsum (ar 13) 800)) C hr I (⟨rfl, hM⟩) dX5_heldInAll_33 (Nat.le_of_ble_eq_true rfl) (Nat.le_of_ble_eq_true rfl)
      · have hi13 : i < 800 := hv_ltN (n := 800) (by decide) (by omega) c13
        refine lv_lload_n C.1 C.2.1 dX5_heldInAll_16 rfl (lv_at hl 1 rfl) ?_
        refine lv_aload_n C.1 C.2.1 dX5_heldInAll_17 rfl (lv_at hl 2 rfl) ?_
        refine hv_get (ci := 6) (Cn := RX5) (T := TX5) (N := 21) (ref := "DividendDeskModel") (v := .ref (ad 13)) C I hM.1 wX5 rfl 13 (by decide) (by decide +kernel) (fun _ h9 => h9) rfl dX5_heldInAll_18 ?_
        refine lv_iload_n C.1 C.2.1 dX5_heldInAll_21 rfl (lv_at hl 0 rfl) ?_
        refine hv_ialdN (n := 800) (f := ar 13) C I (isM_a hM 13 rfl) (show i < 800 by omega) (by decide) dX5_heldInAll_22 ?_
        refine lv_i2l C.1 C.2.1 dX5_heldInAll_23 rfl ?_
        refine lv_ladd C.1 C.2.1 dX5_heldInAll_24 ?_
        refine lv_topl (fun z_2 ez_2 => ?_)
        have ez_2 : z_2 = hsum (ar 13) (i + 1) := by rw [ez_2]; rfl
        subst ez_2
        refine lv_lstore_n (lv' := [(1, .long (hsum (ar 13) (i + 1))), (3, .int (nI i)), (0, .ref o)]) C.1 C.2.1 dX5_heldInAll_25 rfl hl (by decide) rfl (fun ls hl => ?_)
        refine lv_iinc (v := nI (i + 1)) (lv' := [(3, .int (nI (i + 1))), (1, .long (hsum (ar 13) (i + 1))), (0, .ref o)]) C.1 C.2.1 dX5_heldInAll_26 hl (k := 1) rfl (nI_1 i) (by decide) rfl (fun ls hl => ?_)
        refine lv_goto (tgt := 9) C.1 C.2.1 dX5_heldInAll_29 (by decide) ?_
        exact ih (i + 1) (by omega) (by omega)  _ _ I ls (lv_sub hl [0, 1, 2] rfl)
  exact loop (800 + 1) 0 (Nat.zero_le _) (by omega) _ _ I ls (lv_sub hl [0, 1, 2] rfl)

set_option maxHeartbeats 4000000 in
set_option maxRecDepth 100000 in
theorem c_X5_gross (l : Launch) (G : hv_G) (h : hv) (sz : Nat) {o : Nat} {ad : Nat → Nat} {dy : Int32} {n d : Nat} {rf : Int64} {th : Int32} {ar : Nat → Nat → Int32} (hM : isM G h o ad dy n d rf th ar) (p0 p1 : Int32) (hn : n ≤ 20) (hd : d ≤ 40) : hv_Mi l yX5_gross wsX5_gross 3 90 0 0 G h sz [.ref o, .int p0, .int p1] (fun r u => (fAa p0 p1 n d = 0 → (r = ar 12 (20 * p0.toNatClampNeg + p1.toNatClampNeg) ∧ isM G u o ad dy n d rf 0 ar)) ∧ (¬ fAa p0 p1 n d = 0 → isM G u o ad dy n d rf (fAa p0 p1 n d) ar)) := by
  have wX5 : ∀ w ∈ wsX50, w ∈ wsX5_gross := by decide +kernel
  refine hv_enter (y := yX5_gross) (avs := [.ref o, .int p0, .int p1]) (maxL := 3) (Qf := fun sz => va_Qi (fun r u => (fAa p0 p1 n d = 0 → (r = ar 12 (20 * p0.toNatClampNeg + p1.toNatClampNeg) ∧ isM G u o ad dy n d rf 0 ar)) ∧ (¬ fAa p0 p1 n d = 0 → isM G u o ad dy n d rf (fAa p0 p1 n d) ar)) (hv_Bq G h sz) (hv_A h sz)) (by decide) rfl rfl (Nat.le_of_ble_eq_true rfl) ?_
  intro p e s m below meth c hr hnm C I ls hl
  have hl : lv_has ls 3 [(0, .ref o), (1, .int p0), (2, .int p1)] := hl
  refine lv_aload_n C.1 C.2.1 dX5_gross_0 rfl (lv_at hl 0 rfl) ?_
  refine lv_iload_n C.1 C.2.1 dX5_gross_1 rfl (lv_at hl 1 rfl) ?_
  refine lv_iload_n C.1 C.2.1 dX5_gross_2 rfl (lv_at hl 2 rfl) ?_
  refine hv_ki I (va_runV (As := [.int p0, .int p1]) (rest := []) C.fix (c_X5_areAsked l G h _ hM p0 p1) (cwV 2 C.2.2.2.2.1 gX5_gross_X5_areAsked rfl rfl rfl (by decide +kernel) ⟨Nat.le_of_ble_eq_true rfl, Nat.le_of_ble_eq_true rfl⟩) (hv_preV C I hM.1 (r := (RX5, TX5, 21)) rfl) rfl rfl hl.1 rfl (lv_room (Nat.le_of_ble_eq_true rfl)) dX5_gross_3 ⟨Nat.le_of_ble_eq_true rfl, Nat.le_of_ble_eq_true rfl⟩) (fun ru_1 u_1 H locs pu_1 I => ?_)
  obtain ⟨e1, hM⟩ := pu_1; have e1 := e1.symm; subst e1
  refine lv_if_eq (tgt := 23) C.1 C.2.1 dX5_gross_6 (by decide) (fun c6 => ?_) (fun c6 => ?_)
  · have eF := cz_yes c6
    refine lv_iconst (v := 0) C.1 C.2.1 dX5_gross_23 (by decide) ?_
    exact hv_iret (v := 0) C hr I (⟨fun z => absurd z eF, fun _ => hM⟩) dX5_gross_24 (Nat.le_of_ble_eq_true rfl) (Nat.le_of_ble_eq_true rfl)
  · have eF : fAa p0 p1 n d = 0 := cz_no c6
    have hx := fAa_0 eF
    rw [eF] at hM
    refine lv_aload_n C.1 C.2.1 dX5_gross_9 rfl (lv_at hl 0 rfl) ?_
    refine hv_get (ci := 6) (Cn := RX5) (T := TX5) (N := 21) (ref := "DividendDeskModel") (v := .ref (ad 12)) C I hM.1 wX5 rfl 12 (by decide) (by decide +kernel) (fun _ h9 => h9) rfl dX5_gross_10 ?_
    refine lv_bipush (v := 20) C.1 C.2.1 dX5_gross_13 (by decide) ?_
    refine lv_iload_n C.1 C.2.1 dX5_gross_15 rfl (lv_at hl 1 rfl) ?_
    refine lv_imul C.1 C.2.1 dX5_gross_16 ?_
    refine lv_iload_n C.1 C.2.1 dX5_gross_17 rfl (lv_at hl 2 rfl) ?_
    refine lv_iadd C.1 C.2.1 dX5_gross_18 ?_
    obtain ⟨ex, hx2⟩ := ix20 (A := 40) (iwh_vp 40 hd (by decide) hx.1) (by decide) (iwh_vp 20 hn (by decide) hx.2)
    refine lv_topi (fun z_2 ez_2 => ?_)
    have ez_2 : z_2 = nI (20 * p0.toNatClampNeg + p1.toNatClampNeg) := by rw [ez_2]; exact ex
    subst ez_2
    refine hv_ialdN (n := 800) (f := ar 12) C I (isM_a hM 12 rfl) hx2 (by decide) dX5_gross_19 ?_
    refine lv_goto (tgt := 24) C.1 C.2.1 dX5_gross_20 (by decide) ?_
    exact hv_iret (v := ((ar 12) (20 * p0.toNatClampNeg + p1.toNatClampNeg))) C hr I (⟨fun _ => ⟨rfl, hM⟩, fun z => absurd eF z⟩) dX5_gross_24 (Nat.le_of_ble_eq_true rfl) (Nat.le_of_ble_eq_true rfl)

set_option maxHeartbeats 4000000 in
set_option maxRecDepth 100000 in
theorem c_X5_held (l : Launch) (G : hv_G) (h : hv) (sz : Nat) {o : Nat} {ad : Nat → Nat} {dy : Int32} {n d : Nat} {rf : Int64} {th : Int32} {ar : Nat → Nat → Int32} (hM : isM G h o ad dy n d rf th ar) (p0 p1 : Int32) (hn : n ≤ 20) (hd : d ≤ 40) : hv_Mi l yX5_held wsX5_held 3 90 0 0 G h sz [.ref o, .int p0, .int p1] (fun r u => (fAa p0 p1 n d = 0 → (r = ar 13 (20 * p0.toNatClampNeg + p1.toNatClampNeg) ∧ isM G u o ad dy n d rf 0 ar)) ∧ (¬ fAa p0 p1 n d = 0 → isM G u o ad dy n d rf (fAa p0 p1 n d) ar)) := by
  have wX5 : ∀ w ∈ wsX50, w ∈ wsX5_held := by decide +kernel
  refine hv_enter (y := yX5_held) (avs := [.ref o, .int p0, .int p1]) (maxL := 3) (Qf := fun sz => va_Qi (fun r u => (fAa p0 p1 n d = 0 → (r = ar 13 (20 * p0.toNatClampNeg + p1.toNatClampNeg) ∧ isM G u o ad dy n d rf 0 ar)) ∧ (¬ fAa p0 p1 n d = 0 → isM G u o ad dy n d rf (fAa p0 p1 n d) ar)) (hv_Bq G h sz) (hv_A h sz)) (by decide) rfl rfl (Nat.le_of_ble_eq_true rfl) ?_
  intro p e s m below meth c hr hnm C I ls hl
  have hl : lv_has ls 3 [(0, .ref o), (1, .int p0), (2, .int p1)] := hl
  refine lv_aload_n C.1 C.2.1 dX5_held_0 rfl (lv_at hl 0 rfl) ?_
  refine lv_iload_n C.1 C.2.1 dX5_held_1 rfl (lv_at hl 1 rfl) ?_
  refine lv_iload_n C.1 C.2.1 dX5_held_2 rfl (lv_at hl 2 rfl) ?_
  refine hv_ki I (va_runV (As := [.int p0, .int p1]) (rest := []) C.fix (c_X5_areAsked l G h _ hM p0 p1) (cwV 2 C.2.2.2.2.1 gX5_held_X5_areAsked rfl rfl rfl (by decide +kernel) ⟨Nat.le_of_ble_eq_true rfl, Nat.le_of_ble_eq_true rfl⟩) (hv_preV C I hM.1 (r := (RX5, TX5, 21)) rfl) rfl rfl hl.1 rfl (lv_room (Nat.le_of_ble_eq_true rfl)) dX5_held_3 ⟨Nat.le_of_ble_eq_true rfl, Nat.le_of_ble_eq_true rfl⟩) (fun ru_1 u_1 H locs pu_1 I => ?_)
  obtain ⟨e1, hM⟩ := pu_1; have e1 := e1.symm; subst e1
  refine lv_if_eq (tgt := 23) C.1 C.2.1 dX5_held_6 (by decide) (fun c6 => ?_) (fun c6 => ?_)
  · have eF := cz_yes c6
    refine lv_iconst (v := 0) C.1 C.2.1 dX5_held_23 (by decide) ?_
    exact hv_iret (v := 0) C hr I (⟨fun z => absurd z eF, fun _ => hM⟩) dX5_held_24 (Nat.le_of_ble_eq_true rfl) (Nat.le_of_ble_eq_true rfl)
  · have eF : fAa p0 p1 n d = 0 := cz_no c6
    have hx := fAa_0 eF
    rw [eF] at hM
    refine lv_aload_n C.1 C.2.1 dX5_held_9 rfl (lv_at hl 0 rfl) ?_
    refine hv_get (ci := 6) (Cn := RX5) (T := TX5) (N := 21) (ref := "DividendDeskModel") (v := .ref (ad 13)) C I hM.1 wX5 rfl 13 (by decide) (by decide +kernel) (fun _ h9 => h9) rfl dX5_held_10 ?_
    refine lv_bipush (v := 20) C.1 C.2.1 dX5_held_13 (by decide) ?_
    refine lv_iload_n C.1 C.2.1 dX5_held_15 rfl (lv_at hl 1 rfl) ?_
    refine lv_imul C.1 C.2.1 dX5_held_16 ?_
    refine lv_iload_n C.1 C.2.1 dX5_held_17 rfl (lv_at hl 2 rfl) ?_
    refine lv_iadd C.1 C.2.1 dX5_held_18 ?_
    obtain ⟨ex, hx2⟩ := ix20 (A := 40) (iwh_vp 40 hd (by decide) hx.1) (by decide) (iwh_vp 20 hn (by decide) hx.2)
    refine lv_topi (fun z_2 ez_2 => ?_)
    have ez_2 : z_2 = nI (20 * p0.toNatClampNeg + p1.toNatClampNeg) := by rw [ez_2]; exact ex
    subst ez_2
    refine hv_ialdN (n := 800) (f := ar 13) C I (isM_a hM 13 rfl) hx2 (by decide) dX5_held_19 ?_
    refine lv_goto (tgt := 24) C.1 C.2.1 dX5_held_20 (by decide) ?_
    exact hv_iret (v := ((ar 13) (20 * p0.toNatClampNeg + p1.toNatClampNeg))) C hr I (⟨fun _ => ⟨rfl, hM⟩, fun z => absurd eF z⟩) dX5_held_24 (Nat.le_of_ble_eq_true rfl) (Nat.le_of_ble_eq_true rfl)

set_option maxHeartbeats 4000000 in
set_option maxRecDepth 100000 in
theorem c_X5_due (l : Launch) (G : hv_G) (h : hv) (sz : Nat) {o : Nat} {ad : Nat → Nat} {dy : Int32} {n d : Nat} {rf : Int64} {th : Int32} {ar : Nat → Nat → Int32} (hM : isM G h o ad dy n d rf th ar) (p0 p1 : Int32) (hn : n ≤ 20) (hd : d ≤ 40) : hv_Mi l yX5_due wsX5_due 3 90 0 0 G h sz [.ref o, .int p0, .int p1] (fun r u => (fAa p0 p1 n d = 0 → (r = ar 14 (20 * p0.toNatClampNeg + p1.toNatClampNeg) ∧ isM G u o ad dy n d rf 0 ar)) ∧ (¬ fAa p0 p1 n d = 0 → isM G u o ad dy n d rf (fAa p0 p1 n d) ar)) := by
  have wX5 : ∀ w ∈ wsX50, w ∈ wsX5_due := by decide +kernel
  refine hv_enter (y := yX5_due) (avs := [.ref o, .int p0, .int p1]) (maxL := 3) (Qf := fun sz => va_Qi (fun r u => (fAa p0 p1 n d = 0 → (r = ar 14 (20 * p0.toNatClampNeg + p1.toNatClampNeg) ∧ isM G u o ad dy n d rf 0 ar)) ∧ (¬ fAa p0 p1 n d = 0 → isM G u o ad dy n d rf (fAa p0 p1 n d) ar)) (hv_Bq G h sz) (hv_A h sz)) (by decide) rfl rfl (Nat.le_of_ble_eq_true rfl) ?_
  intro p e s m below meth c hr hnm C I ls hl
  have hl : lv_has ls 3 [(0, .ref o), (1, .int p0), (2, .int p1)] := hl
  refine lv_aload_n C.1 C.2.1 dX5_due_0 rfl (lv_at hl 0 rfl) ?_
  refine lv_iload_n C.1 C.2.1 dX5_due_1 rfl (lv_at hl 1 rfl) ?_
  refine lv_iload_n C.1 C.2.1 dX5_due_2 rfl (lv_at hl 2 rfl) ?_
  refine hv_ki I (va_runV (As := [.int p0, .int p1]) (rest := []) C.fix (c_X5_areAsked l G h _ hM p0 p1) (cwV 2 C.2.2.2.2.1 gX5_due_X5_areAsked rfl rfl rfl (by decide +kernel) ⟨Nat.le_of_ble_eq_true rfl, Nat.le_of_ble_eq_true rfl⟩) (hv_preV C I hM.1 (r := (RX5, TX5, 21)) rfl) rfl rfl hl.1 rfl (lv_room (Nat.le_of_ble_eq_true rfl)) dX5_due_3 ⟨Nat.le_of_ble_eq_true rfl, Nat.le_of_ble_eq_true rfl⟩) (fun ru_1 u_1 H locs pu_1 I => ?_)
  obtain ⟨e1, hM⟩ := pu_1; have e1 := e1.symm; subst e1
  refine lv_if_eq (tgt := 23) C.1 C.2.1 dX5_due_6 (by decide) (fun c6 => ?_) (fun c6 => ?_)
  · have eF := cz_yes c6
    refine lv_iconst (v := 0) C.1 C.2.1 dX5_due_23 (by decide) ?_
    exact hv_iret (v := 0) C hr I (⟨fun z => absurd z eF, fun _ => hM⟩) dX5_due_24 (Nat.le_of_ble_eq_true rfl) (Nat.le_of_ble_eq_true rfl)
  · have eF : fAa p0 p1 n d = 0 := cz_no c6
    have hx := fAa_0 eF
    rw [eF] at hM
    refine lv_aload_n C.1 C.2.1 dX5_due_9 rfl (lv_at hl 0 rfl) ?_
    refine hv_get (ci := 6) (Cn := RX5) (T := TX5) (N := 21) (ref := "DividendDeskModel") (v := .ref (ad 14)) C I hM.1 wX5 rfl 14 (by decide) (by decide +kernel) (fun _ h9 => h9) rfl dX5_due_10 ?_
    refine lv_bipush (v := 20) C.1 C.2.1 dX5_due_13 (by decide) ?_
    refine lv_iload_n C.1 C.2.1 dX5_due_15 rfl (lv_at hl 1 rfl) ?_
    refine lv_imul C.1 C.2.1 dX5_due_16 ?_
    refine lv_iload_n C.1 C.2.1 dX5_due_17 rfl (lv_at hl 2 rfl) ?_
    refine lv_iadd C.1 C.2.1 dX5_due_18 ?_
    obtain ⟨ex, hx2⟩ := ix20 (A := 40) (iwh_vp 40 hd (by decide) hx.1) (by decide) (iwh_vp 20 hn (by decide) hx.2)
    refine lv_topi (fun z_2 ez_2 => ?_)
    have ez_2 : z_2 = nI (20 * p0.toNatClampNeg + p1.toNatClampNeg) := by rw [ez_2]; exact ex
    subst ez_2
    refine hv_ialdN (n := 800) (f := ar 14) C I (isM_a hM 14 rfl) hx2 (by decide) dX5_due_19 ?_
    refine lv_goto (tgt := 24) C.1 C.2.1 dX5_due_20 (by decide) ?_
    exact hv_iret (v := ((ar 14) (20 * p0.toNatClampNeg + p1.toNatClampNeg))) C hr I (⟨fun _ => ⟨rfl, hM⟩, fun z => absurd eF z⟩) dX5_due_24 (Nat.le_of_ble_eq_true rfl) (Nat.le_of_ble_eq_true rfl)

set_option maxHeartbeats 4000000 in
set_option maxRecDepth 100000 in
theorem c_X5_refund (l : Launch) (G : hv_G) (h : hv) (sz : Nat) {o : Nat} {ad : Nat → Nat} {dy : Int32} {n d : Nat} {rf : Int64} {th : Int32} {ar : Nat → Nat → Int32} (hM : isM G h o ad dy n d rf th ar) (p0 p1 : Int32) (hn : n ≤ 20) (hd : d ≤ 40) : hv_Mi l yX5_refund wsX5_refund 4 150 0 0 G h sz [.ref o, .int p0, .int p1] (fun r u => (fRf p0 p1 n d (ar 12) (ar 11) dy = 0 → (r = mor (ar 13 (20 * p0.toNatClampNeg + p1.toNatClampNeg)) (taxF dy n (ar 4) (ar 7) (ar 12) (ar 15) (ar 16) (ar 17) (ar 18) p0.toNatClampNeg p1.toNatClampNeg 1 0) ∧ isM G u o ad dy n d (rf + (mor (ar 13 (20 * p0.toNatClampNeg + p1.toNatClampNeg)) (taxF dy n (ar 4) (ar 7) (ar 12) (ar 15) (ar 16) (ar 17) (ar 18) p0.toNatClampNeg p1.toNatClampNeg 1 0)).toInt64) 0 (va_up ar 13 (upd (ar 13) (20 * p0.toNatClampNeg + p1.toNatClampNeg) ((ar 13 (20 * p0.toNatClampNeg + p1.toNatClampNeg)) - mor (ar 13 (20 * p0.toNatClampNeg + p1.toNatClampNeg)) (taxF dy n (ar 4) (ar 7) (ar 12) (ar 15) (ar 16) (ar 17) (ar 18) p0.toNatClampNeg p1.toNatClampNeg 1 0)))))) ∧ (¬ fRf p0 p1 n d (ar 12) (ar 11) dy = 0 → isM G u o ad dy n d rf (fRf p0 p1 n d (ar 12) (ar 11) dy) ar)) := by
  refine hv_enter (y := yX5_refund) (avs := [.ref o, .int p0, .int p1]) (maxL := 3) (Qf := fun sz => va_Qi (fun r u => (fRf p0 p1 n d (ar 12) (ar 11) dy = 0 → (r = mor (ar 13 (20 * p0.toNatClampNeg + p1.toNatClampNeg)) (taxF dy n (ar 4) (ar 7) (ar 12) (ar 15) (ar 16) (ar 17) (ar 18) p0.toNatClampNeg p1.toNatClampNeg 1 0) ∧ isM G u o ad dy n d (rf + (mor (ar 13 (20 * p0.toNatClampNeg + p1.toNatClampNeg)) (taxF dy n (ar 4) (ar 7) (ar 12) (ar 15) (ar 16) (ar 17) (ar 18) p0.toNatClampNeg p1.toNatClampNeg 1 0)).toInt64) 0 (va_up ar 13 (upd (ar 13) (20 * p0.toNatClampNeg + p1.toNatClampNeg) ((ar 13 (20 * p0.toNatClampNeg + p1.toNatClampNeg)) - mor (ar 13 (20 * p0.toNatClampNeg + p1.toNatClampNeg)) (taxF dy n (ar 4) (ar 7) (ar 12) (ar 15) (ar 16) (ar 17) (ar 18) p0.toNatClampNeg p1.toNatClampNeg 1 0)))))) ∧ (¬ fRf p0 p1 n d (ar 12) (ar 11) dy = 0 → isM G u o ad dy n d rf (fRf p0 p1 n d (ar 12) (ar 11) dy) ar)) (hv_Bq G h sz) (hv_A h sz)) (by decide) rfl rfl (Nat.le_of_ble_eq_true rfl) ?_
  intro p e s m below meth c hr hnm C I ls hl
  have hl : lv_has ls 3 [(0, .ref o), (1, .int p0), (2, .int p1)] := hl
  refine lv_aload_n C.1 C.2.1 dX5_refund_0 rfl (lv_at hl 0 rfl) ?_
  refine lv_aload_n C.1 C.2.1 dX5_refund_1 rfl (lv_at hl 0 rfl) ?_
  refine lv_iload_n C.1 C.2.1 dX5_refund_2 rfl (lv_at hl 1 rfl) ?_
  refine hv_ki I (va_runV (As := [.int p0]) (rest := [.ref o]) C.fix (c_X5_isDividend l G h _ hM p0) (cwV 1 C.2.2.2.2.1 gX5_refund_X5_isDividend rfl rfl rfl (by decide +kernel) ⟨Nat.le_of_ble_eq_true rfl, Nat.le_of_ble_eq_true rfl⟩) (hv_preV C I hM.1 (r := (RX5, TX5, 21)) rfl) rfl rfl hl.1 rfl (lv_room (Nat.le_of_ble_eq_true rfl)) dX5_refund_3 ⟨Nat.le_of_ble_eq_true rfl, Nat.le_of_ble_eq_true rfl⟩) (fun ru_1 u_1 H locs pu_1 I => ?_)
  obtain ⟨e1, e2⟩ := pu_1; have e1 := e1.symm; subst e1; have e2 := e2.symm; subst e2
  refine lv_if_eq (tgt := 17) C.1 C.2.1 dX5_refund_6 (by decide) (fun c6 => ?_) (fun c6 => ?_)
  · refine lv_iconst (v := 1) C.1 C.2.1 dX5_refund_17 (by decide) ?_
    refine lv_goto (tgt := 37) C.1 C.2.1 dX5_refund_18 (by decide) ?_
    refine hv_ki I (va_runV (As := [.int 1]) (rest := []) C.fix (c_X5_can l G h _ hM 1) (cwV 1 C.2.2.2.2.1 gX5_refund_X5_can rfl rfl rfl (by decide +kernel) ⟨Nat.le_of_ble_eq_true rfl, Nat.le_of_ble_eq_true rfl⟩) (hv_preV C I hM.1 (r := (RX5, TX5, 21)) rfl) rfl rfl hl.1 rfl (lv_room (Nat.le_of_ble_eq_true rfl)) dX5_refund_37 ⟨Nat.le_of_ble_eq_true rfl, Nat.le_of_ble_eq_true rfl⟩) (fun ru_2 u_2 H locs pu_2 I => ?_)
    obtain ⟨e1, hM⟩ := pu_2; have e1 := e1.symm; subst e1
    refine lv_if_ne (tgt := 45) C.1 C.2.1 dX5_refund_40 (by decide) (fun c40 => ?_) (fun c40 => ?_)
    · exact absurd (by decide) c40
    · refine lv_iconst (v := 0) C.1 C.2.1 dX5_refund_43 (by decide) ?_
      exact hv_iret (v := 0) C hr I ((fun eF => ⟨fun z => absurd (eF.symm.trans z) (by decide), fun _ => by rw [eF]; exact hM⟩) (show fRf p0 p1 n d (ar 12) (ar 11) dy = 1 by unfold fRf; first | (simp [c6, c40]; done) | ((repeat' split) <;> first | rfl | contradiction))) dX5_refund_44 (Nat.le_of_ble_eq_true rfl) (Nat.le_of_ble_eq_true rfl)
  · refine lv_aload_n C.1 C.2.1 dX5_refund_9 rfl (lv_at hl 0 rfl) ?_
    refine lv_iload_n C.1 C.2.1 dX5_refund_10 rfl (lv_at hl 2 rfl) ?_
    refine hv_ki I (va_runV (As := [.int p1]) (rest := [.ref o]) C.fix (c_X5_isHolder l G h _ hM p1) (cwV 1 C.2.2.2.2.1 gX5_refund_X5_isHolder rfl rfl rfl (by decide +kernel) ⟨Nat.le_of_ble_eq_true rfl, Nat.le_of_ble_eq_true rfl⟩) (hv_preV C I hM.1 (r := (RX5, TX5, 21)) rfl) rfl rfl hl.1 rfl (lv_room (Nat.le_of_ble_eq_true rfl)) dX5_refund_11 ⟨Nat.le_of_ble_eq_true rfl, Nat.le_of_ble_eq_true rfl⟩) (fun ru_3 u_3 H locs pu_3 I => ?_)
    obtain ⟨e1, e2⟩ := pu_3; have e1 := e1.symm; subst e1; have e2 := e2.symm; subst e2
    refine lv_if_ne (tgt := 21) C.1 C.2.1 dX5_refund_14 (by decide) (fun c14 => ?_) (fun c14 => ?_)
    · refine lv_aload_n C.1 C.2.1 dX5_refund_21 rfl (lv_at hl 0 rfl) ?_
      refine lv_iload_n C.1 C.2.1 dX5_refund_22 rfl (lv_at hl 1 rfl) ?_
      refine lv_iload_n C.1 C.2.1 dX5_refund_23 rfl (lv_at hl 2 rfl) ?_
      refine lv_bipush (v := 60) C.1 C.2.1 dX5_refund_24 (by decide) ?_
      refine hv_ki I (va_runV (As := [.int p0, .int p1, .int 60]) (rest := [.ref o]) C.fix (c_X5_isOver_p l G h _ hM p0 (iwh_vp 40 hd (by decide) c6) p1 (iwh_vp 20 hn (by decide) c14) 60) (cwV 3 C.2.2.2.2.1 gX5_refund_X5_isOver rfl rfl rfl (by decide +kernel) ⟨Nat.le_of_ble_eq_true rfl, Nat.le_of_ble_eq_true rfl⟩) (hv_preV C I hM.1 (r := (RX5, TX5, 21)) rfl) rfl rfl hl.1 rfl (lv_room (Nat.le_of_ble_eq_true rfl)) dX5_refund_26 ⟨Nat.le_of_ble_eq_true rfl, Nat.le_of_ble_eq_true rfl⟩) (fun ru_4 u_4 H locs pu_4 I => ?_)
      obtain ⟨e1, e2⟩ := pu_4; have e1 := e1.symm; subst e1; have e2 := e2.symm; subst e2
      refine lv_if_eq (tgt := 36) C.1 C.2.1 dX5_refund_29 (by decide) (fun c29 => ?_) (fun c29 => ?_)
      · refine lv_iconst (v := 0) C.1 C.2.1 dX5_refund_36 (by decide) ?_
        refine hv_ki I (va_runV (As := [.int 0]) (rest := []) C.fix (c_X5_can l G h _ hM 0) (cwV 1 C.2.2.2.2.1 gX5_refund_X5_can rfl rfl rfl (by decide +kernel) ⟨Nat.le_of_ble_eq_true rfl, Nat.le_of_ble_eq_true rfl⟩) (hv_preV C I hM.1 (r := (RX5, TX5, 21)) rfl) rfl rfl hl.1 rfl (lv_room (Nat.le_of_ble_eq_true rfl)) dX5_refund_37 ⟨Nat.le_of_ble_eq_true rfl, Nat.le_of_ble_eq_true rfl⟩) (fun ru_5 u_5 H locs pu_5 I => ?_)
        obtain ⟨e1, hM⟩ := pu_5; have e1 := e1.symm; subst e1
        refine lv_if_ne (tgt := 45) C.1 C.2.1 dX5_refund_40 (by decide) (fun c40 => ?_) (fun c40 => ?_)
        · refine lv_aload_n C.1 C.2.1 dX5_refund_45 rfl (lv_at hl 0 rfl) ?_
          refine lv_iload_n C.1 C.2.1 dX5_refund_46 rfl (lv_at hl 1 rfl) ?_
          refine lv_iload_n C.1 C.2.1 dX5_refund_47 rfl (lv_at hl 2 rfl) ?_
          refine lv_aload_n C.1 C.2.1 dX5_refund_48 rfl (lv_at hl 0 rfl) ?_
          refine lv_iload_n C.1 C.2.1 dX5_refund_49 rfl (lv_at hl 1 rfl) ?_
          refine lv_iload_n C.1 C.2.1 dX5_refund_50 rfl (lv_at hl 2 rfl) ?_
          refine lv_iconst (v := 1) C.1 C.2.1 dX5_refund_51 (by decide) ?_
          refine lv_iconst (v := 0) C.1 C.2.1 dX5_refund_52 (by decide) ?_
          refine hv_ki I (va_runV (As := [.int p0, .int p1, .int 1, .int 0]) (rest := [.int p1, .int p0, .ref o]) C.fix (c_X5_tax_p l G u_5 _ hM p0 (iwh_vp 40 hd (by decide) c6) p1 (iwh_vp 20 hn (by decide) c14) hn 1 0) (cwV 4 C.2.2.2.2.1 gX5_refund_X5_tax rfl rfl rfl (by decide +kernel) ⟨Nat.le_of_ble_eq_true rfl, Nat.le_of_ble_eq_true rfl⟩) (hv_preV C I hM.1 (r := (RX5, TX5, 21)) rfl) rfl rfl hl.1 rfl (lv_room (Nat.le_of_ble_eq_true rfl)) dX5_refund_53 ⟨Nat.le_of_ble_eq_true rfl, Nat.le_of_ble_eq_true rfl⟩) (fun ru_6 u_6 H locs pu_6 I => ?_)
          obtain ⟨e1, e2⟩ := pu_6; have e1 := e1.symm; subst e1; have e2 := e2.symm; subst e2
          refine hv_ki I (va_runV (As := [.int p0, .int p1, .int (taxF dy n (ar 4) (ar 7) (ar 12) (ar 15) (ar 16) (ar 17) (ar 18) p0.toNatClampNeg p1.toNatClampNeg 1 0)]) (rest := []) C.fix (c_X5_gives_p l G u_5 _ hM p0 (iwh_vp 40 hd (by decide) c6) p1 (iwh_vp 20 hn (by decide) c14) (taxF dy n (ar 4) (ar 7) (ar 12) (ar 15) (ar 16) (ar 17) (ar 18) p0.toNatClampNeg p1.toNatClampNeg 1 0)) (cwV 3 C.2.2.2.2.1 gX5_refund_X5_gives rfl rfl rfl (by decide +kernel) ⟨Nat.le_of_ble_eq_true rfl, Nat.le_of_ble_eq_true rfl⟩) (hv_preV C I hM.1 (r := (RX5, TX5, 21)) rfl) rfl rfl hl.1 rfl (lv_room (Nat.le_of_ble_eq_true rfl)) dX5_refund_56 ⟨Nat.le_of_ble_eq_true rfl, Nat.le_of_ble_eq_true rfl⟩) (fun ru_7 u_7 H locs pu_7 I => ?_)
          obtain ⟨e1, hM⟩ := pu_7; have e1 := e1.symm; subst e1
          exact hv_iret (v := (mor ((ar 13) (20 * p0.toNatClampNeg + p1.toNatClampNeg)) (taxF dy n (ar 4) (ar 7) (ar 12) (ar 15) (ar 16) (ar 17) (ar 18) p0.toNatClampNeg p1.toNatClampNeg 1 0))) C hr I (⟨fun _ => ⟨rfl, hM⟩, fun z => absurd (show fRf p0 p1 n d (ar 12) (ar 11) dy = 0 by unfold fRf; first | (simp [c6, c14, c29, c40]; done) | ((repeat' split) <;> first | rfl | contradiction)) z⟩) dX5_refund_59 (Nat.le_of_ble_eq_true rfl) (Nat.le_of_ble_eq_true rfl)
        · exact absurd c40 (by decide)
      · refine lv_iconst (v := 2) C.1 C.2.1 dX5_refund_32 (by decide) ?_
        refine lv_goto (tgt := 37) C.1 C.2.1 dX5_refund_33 (by decide) ?_
        refine hv_ki I (va_runV (As := [.int 2]) (rest := []) C.fix (c_X5_can l G h _ hM 2) (cwV 1 C.2.2.2.2.1 gX5_refund_X5_can rfl rfl rfl (by decide +kernel) ⟨Nat.le_of_ble_eq_true rfl, Nat.le_of_ble_eq_true rfl⟩) (hv_preV C I hM.1 (r := (RX5, TX5, 21)) rfl) rfl rfl hl.1 rfl (lv_room (Nat.le_of_ble_eq_true rfl)) dX5_refund_37 ⟨Nat.le_of_ble_eq_true rfl, Nat.le_of_ble_eq_true rfl⟩) (fun ru_8 u_8 H locs pu_8 I => ?_)
        obtain ⟨e1, hM⟩ := pu_8; have e1 := e1.symm; subst e1
        refine lv_if_ne (tgt := 45) C.1 C.2.1 dX5_refund_40 (by decide) (fun c40 => ?_) (fun c40 => ?_)
        · exact absurd (by decide) c40
        · refine lv_iconst (v := 0) C.1 C.2.1 dX5_refund_43 (by decide) ?_
          exact hv_iret (v := 0) C hr I ((fun eF => ⟨fun z => absurd (eF.symm.trans z) (by decide), fun _ => by rw [eF]; exact hM⟩) (show fRf p0 p1 n d (ar 12) (ar 11) dy = 2 by unfold fRf; first | (simp [c6, c14, c29, c40]; done) | ((repeat' split) <;> first | rfl | contradiction))) dX5_refund_44 (Nat.le_of_ble_eq_true rfl) (Nat.le_of_ble_eq_true rfl)
    · refine lv_iconst (v := 1) C.1 C.2.1 dX5_refund_17 (by decide) ?_
      refine lv_goto (tgt := 37) C.1 C.2.1 dX5_refund_18 (by decide) ?_
      refine hv_ki I (va_runV (As := [.int 1]) (rest := []) C.fix (c_X5_can l G h _ hM 1) (cwV 1 C.2.2.2.2.1 gX5_refund_X5_can rfl rfl rfl (by decide +kernel) ⟨Nat.le_of_ble_eq_true rfl, Nat.le_of_ble_eq_true rfl⟩) (hv_preV C I hM.1 (r := (RX5, TX5, 21)) rfl) rfl rfl hl.1 rfl (lv_room (Nat.le_of_ble_eq_true rfl)) dX5_refund_37 ⟨Nat.le_of_ble_eq_true rfl, Nat.le_of_ble_eq_true rfl⟩) (fun ru_9 u_9 H locs pu_9 I => ?_)
      obtain ⟨e1, hM⟩ := pu_9; have e1 := e1.symm; subst e1
      refine lv_if_ne (tgt := 45) C.1 C.2.1 dX5_refund_40 (by decide) (fun c40 => ?_) (fun c40 => ?_)
      · exact absurd (by decide) c40
      · refine lv_iconst (v := 0) C.1 C.2.1 dX5_refund_43 (by decide) ?_
        exact hv_iret (v := 0) C hr I ((fun eF => ⟨fun z => absurd (eF.symm.trans z) (by decide), fun _ => by rw [eF]; exact hM⟩) (show fRf p0 p1 n d (ar 12) (ar 11) dy = 1 by unfold fRf; first | (simp [c6, c14, c40]; done) | ((repeat' split) <;> first | rfl | contradiction))) dX5_refund_44 (Nat.le_of_ble_eq_true rfl) (Nat.le_of_ble_eq_true rfl)

set_option maxHeartbeats 4000000 in
set_option maxRecDepth 100000 in
theorem c_X5_claim (l : Launch) (G : hv_G) (h : hv) (sz : Nat) {o : Nat} {ad : Nat → Nat} {dy : Int32} {n d : Nat} {rf : Int64} {th : Int32} {ar : Nat → Nat → Int32} (hM : isM G h o ad dy n d rf th ar) (p0 p1 : Int32) (hn : n ≤ 20) (hd : d ≤ 40) : hv_Mi l yX5_claim wsX5_claim 4 150 0 0 G h sz [.ref o, .int p0, .int p1] (fun r u => (fCl p0 p1 n d (ar 12) (ar 11) (ar 7) dy = 0 → (r = mor (ar 13 (20 * p0.toNatClampNeg + p1.toNatClampNeg)) (ar 14 (20 * p0.toNatClampNeg + p1.toNatClampNeg)) ∧ isM G u o ad dy n d (rf + (mor (ar 13 (20 * p0.toNatClampNeg + p1.toNatClampNeg)) (ar 14 (20 * p0.toNatClampNeg + p1.toNatClampNeg))).toInt64) 0 (va_up ar 13 (upd (ar 13) (20 * p0.toNatClampNeg + p1.toNatClampNeg) ((ar 13 (20 * p0.toNatClampNeg + p1.toNatClampNeg)) - mor (ar 13 (20 * p0.toNatClampNeg + p1.toNatClampNeg)) (ar 14 (20 * p0.toNatClampNeg + p1.toNatClampNeg))))))) ∧ (¬ fCl p0 p1 n d (ar 12) (ar 11) (ar 7) dy = 0 → isM G u o ad dy n d rf (fCl p0 p1 n d (ar 12) (ar 11) (ar 7) dy) ar)) := by
  have wX5 : ∀ w ∈ wsX50, w ∈ wsX5_claim := by decide +kernel
  refine hv_enter (y := yX5_claim) (avs := [.ref o, .int p0, .int p1]) (maxL := 3) (Qf := fun sz => va_Qi (fun r u => (fCl p0 p1 n d (ar 12) (ar 11) (ar 7) dy = 0 → (r = mor (ar 13 (20 * p0.toNatClampNeg + p1.toNatClampNeg)) (ar 14 (20 * p0.toNatClampNeg + p1.toNatClampNeg)) ∧ isM G u o ad dy n d (rf + (mor (ar 13 (20 * p0.toNatClampNeg + p1.toNatClampNeg)) (ar 14 (20 * p0.toNatClampNeg + p1.toNatClampNeg))).toInt64) 0 (va_up ar 13 (upd (ar 13) (20 * p0.toNatClampNeg + p1.toNatClampNeg) ((ar 13 (20 * p0.toNatClampNeg + p1.toNatClampNeg)) - mor (ar 13 (20 * p0.toNatClampNeg + p1.toNatClampNeg)) (ar 14 (20 * p0.toNatClampNeg + p1.toNatClampNeg))))))) ∧ (¬ fCl p0 p1 n d (ar 12) (ar 11) (ar 7) dy = 0 → isM G u o ad dy n d rf (fCl p0 p1 n d (ar 12) (ar 11) (ar 7) dy) ar)) (hv_Bq G h sz) (hv_A h sz)) (by decide) rfl rfl (Nat.le_of_ble_eq_true rfl) ?_
  intro p e s m below meth c hr hnm C I ls hl
  have hl : lv_has ls 3 [(0, .ref o), (1, .int p0), (2, .int p1)] := hl
  refine lv_aload_n C.1 C.2.1 dX5_claim_0 rfl (lv_at hl 0 rfl) ?_
  refine lv_aload_n C.1 C.2.1 dX5_claim_1 rfl (lv_at hl 0 rfl) ?_
  refine lv_iload_n C.1 C.2.1 dX5_claim_2 rfl (lv_at hl 1 rfl) ?_
  refine hv_ki I (va_runV (As := [.int p0]) (rest := [.ref o]) C.fix (c_X5_isDividend l G h _ hM p0) (cwV 1 C.2.2.2.2.1 gX5_claim_X5_isDividend rfl rfl rfl (by decide +kernel) ⟨Nat.le_of_ble_eq_true rfl, Nat.le_of_ble_eq_true rfl⟩) (hv_preV C I hM.1 (r := (RX5, TX5, 21)) rfl) rfl rfl hl.1 rfl (lv_room (Nat.le_of_ble_eq_true rfl)) dX5_claim_3 ⟨Nat.le_of_ble_eq_true rfl, Nat.le_of_ble_eq_true rfl⟩) (fun ru_1 u_1 H locs pu_1 I => ?_)
  obtain ⟨e1, e2⟩ := pu_1; have e1 := e1.symm; subst e1; have e2 := e2.symm; subst e2
  refine lv_if_eq (tgt := 17) C.1 C.2.1 dX5_claim_6 (by decide) (fun c6 => ?_) (fun c6 => ?_)
  · refine lv_iconst (v := 1) C.1 C.2.1 dX5_claim_17 (by decide) ?_
    refine lv_goto (tgt := 46) C.1 C.2.1 dX5_claim_18 (by decide) ?_
    refine hv_ki I (va_runV (As := [.int 1]) (rest := []) C.fix (c_X5_can l G h _ hM 1) (cwV 1 C.2.2.2.2.1 gX5_claim_X5_can rfl rfl rfl (by decide +kernel) ⟨Nat.le_of_ble_eq_true rfl, Nat.le_of_ble_eq_true rfl⟩) (hv_preV C I hM.1 (r := (RX5, TX5, 21)) rfl) rfl rfl hl.1 rfl (lv_room (Nat.le_of_ble_eq_true rfl)) dX5_claim_46 ⟨Nat.le_of_ble_eq_true rfl, Nat.le_of_ble_eq_true rfl⟩) (fun ru_2 u_2 H locs pu_2 I => ?_)
    obtain ⟨e1, hM⟩ := pu_2; have e1 := e1.symm; subst e1
    refine lv_if_ne (tgt := 54) C.1 C.2.1 dX5_claim_49 (by decide) (fun c49 => ?_) (fun c49 => ?_)
    · exact absurd (by decide) c49
    · refine lv_iconst (v := 0) C.1 C.2.1 dX5_claim_52 (by decide) ?_
      exact hv_iret (v := 0) C hr I ((fun eF => ⟨fun z => absurd (eF.symm.trans z) (by decide), fun _ => by rw [eF]; exact hM⟩) (show fCl p0 p1 n d (ar 12) (ar 11) (ar 7) dy = 1 by unfold fCl; first | (simp [c6, c49]; done) | ((repeat' split) <;> first | rfl | contradiction))) dX5_claim_53 (Nat.le_of_ble_eq_true rfl) (Nat.le_of_ble_eq_true rfl)
  · refine lv_aload_n C.1 C.2.1 dX5_claim_9 rfl (lv_at hl 0 rfl) ?_
    refine lv_iload_n C.1 C.2.1 dX5_claim_10 rfl (lv_at hl 2 rfl) ?_
    refine hv_ki I (va_runV (As := [.int p1]) (rest := [.ref o]) C.fix (c_X5_isHolder l G h _ hM p1) (cwV 1 C.2.2.2.2.1 gX5_claim_X5_isHolder rfl rfl rfl (by decide +kernel) ⟨Nat.le_of_ble_eq_true rfl, Nat.le_of_ble_eq_true rfl⟩) (hv_preV C I hM.1 (r := (RX5, TX5, 21)) rfl) rfl rfl hl.1 rfl (lv_room (Nat.le_of_ble_eq_true rfl)) dX5_claim_11 ⟨Nat.le_of_ble_eq_true rfl, Nat.le_of_ble_eq_true rfl⟩) (fun ru_3 u_3 H locs pu_3 I => ?_)
    obtain ⟨e1, e2⟩ := pu_3; have e1 := e1.symm; subst e1; have e2 := e2.symm; subst e2
    refine lv_if_ne (tgt := 21) C.1 C.2.1 dX5_claim_14 (by decide) (fun c14 => ?_) (fun c14 => ?_)
    · refine lv_aload_n C.1 C.2.1 dX5_claim_21 rfl (lv_at hl 0 rfl) ?_
      refine lv_iload_n C.1 C.2.1 dX5_claim_22 rfl (lv_at hl 1 rfl) ?_
      refine lv_iload_n C.1 C.2.1 dX5_claim_23 rfl (lv_at hl 2 rfl) ?_
      refine lv_sipush (v := 1080) C.1 C.2.1 dX5_claim_24 (by decide) ?_
      refine hv_ki I (va_runV (As := [.int p0, .int p1, .int 1080]) (rest := [.ref o]) C.fix (c_X5_isOver_p l G h _ hM p0 (iwh_vp 40 hd (by decide) c6) p1 (iwh_vp 20 hn (by decide) c14) 1080) (cwV 3 C.2.2.2.2.1 gX5_claim_X5_isOver rfl rfl rfl (by decide +kernel) ⟨Nat.le_of_ble_eq_true rfl, Nat.le_of_ble_eq_true rfl⟩) (hv_preV C I hM.1 (r := (RX5, TX5, 21)) rfl) rfl rfl hl.1 rfl (lv_room (Nat.le_of_ble_eq_true rfl)) dX5_claim_27 ⟨Nat.le_of_ble_eq_true rfl, Nat.le_of_ble_eq_true rfl⟩) (fun ru_4 u_4 H locs pu_4 I => ?_)
      obtain ⟨e1, e2⟩ := pu_4; have e1 := e1.symm; subst e1; have e2 := e2.symm; subst e2
      refine lv_if_ne (tgt := 41) C.1 C.2.1 dX5_claim_30 (by decide) (fun c30 => ?_) (fun c30 => ?_)
      · refine lv_iconst (v := 2) C.1 C.2.1 dX5_claim_41 (by decide) ?_
        refine lv_goto (tgt := 46) C.1 C.2.1 dX5_claim_42 (by decide) ?_
        refine hv_ki I (va_runV (As := [.int 2]) (rest := []) C.fix (c_X5_can l G h _ hM 2) (cwV 1 C.2.2.2.2.1 gX5_claim_X5_can rfl rfl rfl (by decide +kernel) ⟨Nat.le_of_ble_eq_true rfl, Nat.le_of_ble_eq_true rfl⟩) (hv_preV C I hM.1 (r := (RX5, TX5, 21)) rfl) rfl rfl hl.1 rfl (lv_room (Nat.le_of_ble_eq_true rfl)) dX5_claim_46 ⟨Nat.le_of_ble_eq_true rfl, Nat.le_of_ble_eq_true rfl⟩) (fun ru_5 u_5 H locs pu_5 I => ?_)
        obtain ⟨e1, hM⟩ := pu_5; have e1 := e1.symm; subst e1
        refine lv_if_ne (tgt := 54) C.1 C.2.1 dX5_claim_49 (by decide) (fun c49 => ?_) (fun c49 => ?_)
        · exact absurd (by decide) c49
        · refine lv_iconst (v := 0) C.1 C.2.1 dX5_claim_52 (by decide) ?_
          exact hv_iret (v := 0) C hr I ((fun eF => ⟨fun z => absurd (eF.symm.trans z) (by decide), fun _ => by rw [eF]; exact hM⟩) (show fCl p0 p1 n d (ar 12) (ar 11) (ar 7) dy = 2 by unfold fCl; first | (simp [c6, c14, c30, c49]; done) | ((repeat' split) <;> first | rfl | contradiction))) dX5_claim_53 (Nat.le_of_ble_eq_true rfl) (Nat.le_of_ble_eq_true rfl)
      · refine lv_aload_n C.1 C.2.1 dX5_claim_33 rfl (lv_at hl 0 rfl) ?_
        refine lv_iload_n C.1 C.2.1 dX5_claim_34 rfl (lv_at hl 2 rfl) ?_
        refine hv_ki I (va_runV (As := [.int p1]) (rest := [.ref o]) C.fix (c_X5_hasForm_p l G h _ hM p1 (iwh_vp 20 hn (by decide) c14)) (cwV 1 C.2.2.2.2.1 gX5_claim_X5_hasForm rfl rfl rfl (by decide +kernel) ⟨Nat.le_of_ble_eq_true rfl, Nat.le_of_ble_eq_true rfl⟩) (hv_preV C I hM.1 (r := (RX5, TX5, 21)) rfl) rfl rfl hl.1 rfl (lv_room (Nat.le_of_ble_eq_true rfl)) dX5_claim_35 ⟨Nat.le_of_ble_eq_true rfl, Nat.le_of_ble_eq_true rfl⟩) (fun ru_6 u_6 H locs pu_6 I => ?_)
        obtain ⟨e1, e2⟩ := pu_6; have e1 := e1.symm; subst e1; have e2 := e2.symm; subst e2
        refine lv_if_ne (tgt := 45) C.1 C.2.1 dX5_claim_38 (by decide) (fun c38 => ?_) (fun c38 => ?_)
        · refine lv_iconst (v := 0) C.1 C.2.1 dX5_claim_45 (by decide) ?_
          refine hv_ki I (va_runV (As := [.int 0]) (rest := []) C.fix (c_X5_can l G h _ hM 0) (cwV 1 C.2.2.2.2.1 gX5_claim_X5_can rfl rfl rfl (by decide +kernel) ⟨Nat.le_of_ble_eq_true rfl, Nat.le_of_ble_eq_true rfl⟩) (hv_preV C I hM.1 (r := (RX5, TX5, 21)) rfl) rfl rfl hl.1 rfl (lv_room (Nat.le_of_ble_eq_true rfl)) dX5_claim_46 ⟨Nat.le_of_ble_eq_true rfl, Nat.le_of_ble_eq_true rfl⟩) (fun ru_7 u_7 H locs pu_7 I => ?_)
          obtain ⟨e1, hM⟩ := pu_7; have e1 := e1.symm; subst e1
          refine lv_if_ne (tgt := 54) C.1 C.2.1 dX5_claim_49 (by decide) (fun c49 => ?_) (fun c49 => ?_)
          · refine lv_aload_n C.1 C.2.1 dX5_claim_54 rfl (lv_at hl 0 rfl) ?_
            refine lv_iload_n C.1 C.2.1 dX5_claim_55 rfl (lv_at hl 1 rfl) ?_
            refine lv_iload_n C.1 C.2.1 dX5_claim_56 rfl (lv_at hl 2 rfl) ?_
            refine lv_aload_n C.1 C.2.1 dX5_claim_57 rfl (lv_at hl 0 rfl) ?_
            refine hv_get (ci := 6) (Cn := RX5) (T := TX5) (N := 21) (ref := "DividendDeskModel") (v := .ref (ad 14)) C I hM.1 wX5 rfl 14 (by decide) (by decide +kernel) (fun _ h9 => h9) rfl dX5_claim_58 ?_
            refine lv_bipush (v := 20) C.1 C.2.1 dX5_claim_61 (by decide) ?_
            refine lv_iload_n C.1 C.2.1 dX5_claim_63 rfl (lv_at hl 1 rfl) ?_
            refine lv_imul C.1 C.2.1 dX5_claim_64 ?_
            refine lv_iload_n C.1 C.2.1 dX5_claim_65 rfl (lv_at hl 2 rfl) ?_
            refine lv_iadd C.1 C.2.1 dX5_claim_66 ?_
            obtain ⟨ex, hx2⟩ := ix20 (A := 40) (iwh_vp 40 hd (by decide) c6) (by decide) (iwh_vp 20 hn (by decide) c14)
            refine lv_topi (fun z_8 ez_8 => ?_)
            have ez_8 : z_8 = nI (20 * p0.toNatClampNeg + p1.toNatClampNeg) := by rw [ez_8]; exact ex
            subst ez_8
            refine hv_ialdN (n := 800) (f := ar 14) C I (isM_a hM 14 rfl) hx2 (by decide) dX5_claim_67 ?_
            refine hv_ki I (va_runV (As := [.int p0, .int p1, .int ((ar 14) (20 * p0.toNatClampNeg + p1.toNatClampNeg))]) (rest := []) C.fix (c_X5_gives_p l G u_7 _ hM p0 (iwh_vp 40 hd (by decide) c6) p1 (iwh_vp 20 hn (by decide) c14) ((ar 14) (20 * p0.toNatClampNeg + p1.toNatClampNeg))) (cwV 3 C.2.2.2.2.1 gX5_claim_X5_gives rfl rfl rfl (by decide +kernel) ⟨Nat.le_of_ble_eq_true rfl, Nat.le_of_ble_eq_true rfl⟩) (hv_preV C I hM.1 (r := (RX5, TX5, 21)) rfl) rfl rfl hl.1 rfl (lv_room (Nat.le_of_ble_eq_true rfl)) dX5_claim_68 ⟨Nat.le_of_ble_eq_true rfl, Nat.le_of_ble_eq_true rfl⟩) (fun ru_9 u_9 H locs pu_9 I => ?_)
            obtain ⟨e1, hM⟩ := pu_9; have e1 := e1.symm; subst e1
            exact hv_iret (v := (mor ((ar 13) (20 * p0.toNatClampNeg + p1.toNatClampNeg)) ((ar 14) (20 * p0.toNatClampNeg + p1.toNatClampNeg)))) C hr I (⟨fun _ => ⟨rfl, hM⟩, fun z => absurd (show fCl p0 p1 n d (ar 12) (ar 11) (ar 7) dy = 0 by unfold fCl; first | (simp [c6, c14, c30, c38, c49]; done) | ((repeat' split) <;> first | rfl | contradiction)) z⟩) dX5_claim_71 (Nat.le_of_ble_eq_true rfl) (Nat.le_of_ble_eq_true rfl)
          · exact absurd c49 (by decide)
        · refine lv_iconst (v := 2) C.1 C.2.1 dX5_claim_41 (by decide) ?_
          refine lv_goto (tgt := 46) C.1 C.2.1 dX5_claim_42 (by decide) ?_
          refine hv_ki I (va_runV (As := [.int 2]) (rest := []) C.fix (c_X5_can l G h _ hM 2) (cwV 1 C.2.2.2.2.1 gX5_claim_X5_can rfl rfl rfl (by decide +kernel) ⟨Nat.le_of_ble_eq_true rfl, Nat.le_of_ble_eq_true rfl⟩) (hv_preV C I hM.1 (r := (RX5, TX5, 21)) rfl) rfl rfl hl.1 rfl (lv_room (Nat.le_of_ble_eq_true rfl)) dX5_claim_46 ⟨Nat.le_of_ble_eq_true rfl, Nat.le_of_ble_eq_true rfl⟩) (fun ru_10 u_10 H locs pu_10 I => ?_)
          obtain ⟨e1, hM⟩ := pu_10; have e1 := e1.symm; subst e1
          refine lv_if_ne (tgt := 54) C.1 C.2.1 dX5_claim_49 (by decide) (fun c49 => ?_) (fun c49 => ?_)
          · exact absurd (by decide) c49
          · refine lv_iconst (v := 0) C.1 C.2.1 dX5_claim_52 (by decide) ?_
            exact hv_iret (v := 0) C hr I ((fun eF => ⟨fun z => absurd (eF.symm.trans z) (by decide), fun _ => by rw [eF]; exact hM⟩) (show fCl p0 p1 n d (ar 12) (ar 11) (ar 7) dy = 2 by unfold fCl; first | (simp [c6, c14, c30, c38, c49]; done) | ((repeat' split) <;> first | rfl | contradiction))) dX5_claim_53 (Nat.le_of_ble_eq_true rfl) (Nat.le_of_ble_eq_true rfl)
    · refine lv_iconst (v := 1) C.1 C.2.1 dX5_claim_17 (by decide) ?_
      refine lv_goto (tgt := 46) C.1 C.2.1 dX5_claim_18 (by decide) ?_
      refine hv_ki I (va_runV (As := [.int 1]) (rest := []) C.fix (c_X5_can l G h _ hM 1) (cwV 1 C.2.2.2.2.1 gX5_claim_X5_can rfl rfl rfl (by decide +kernel) ⟨Nat.le_of_ble_eq_true rfl, Nat.le_of_ble_eq_true rfl⟩) (hv_preV C I hM.1 (r := (RX5, TX5, 21)) rfl) rfl rfl hl.1 rfl (lv_room (Nat.le_of_ble_eq_true rfl)) dX5_claim_46 ⟨Nat.le_of_ble_eq_true rfl, Nat.le_of_ble_eq_true rfl⟩) (fun ru_11 u_11 H locs pu_11 I => ?_)
      obtain ⟨e1, hM⟩ := pu_11; have e1 := e1.symm; subst e1
      refine lv_if_ne (tgt := 54) C.1 C.2.1 dX5_claim_49 (by decide) (fun c49 => ?_) (fun c49 => ?_)
      · exact absurd (by decide) c49
      · refine lv_iconst (v := 0) C.1 C.2.1 dX5_claim_52 (by decide) ?_
        exact hv_iret (v := 0) C hr I ((fun eF => ⟨fun z => absurd (eF.symm.trans z) (by decide), fun _ => by rw [eF]; exact hM⟩) (show fCl p0 p1 n d (ar 12) (ar 11) (ar 7) dy = 1 by unfold fCl; first | (simp [c6, c14, c49]; done) | ((repeat' split) <;> first | rfl | contradiction))) dX5_claim_53 (Nat.le_of_ble_eq_true rfl) (Nat.le_of_ble_eq_true rfl)
