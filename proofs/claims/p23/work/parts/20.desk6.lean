/-! ===== a payment, whole; a dividend ===== -/
theorem isY_new {G : hv_G} {h h1 u : hv} {q pl : Nat} {am x0 x2 : Int32} (nq : h q = none) (en : h1 = hv_up h q (.inr (3, [.int x0, .null, .int x2]))) (npl : h1 pl = none) (eu : u = hv_up (hv_up h1 pl (.inr (0, [.int 0, .ref (G.2.2 1), .int 0]))) q (.inr (3, [.int am, .ref pl, .int 0]))) : isY G h u q pl 0 (fun _ => 0) [] am 0 := by
  have ne : ¬ pl = q := fun z => by rw [z, en, hv_up_eq] at npl; cases npl
  have np : h pl = none := by rw [en, hv_up_ne ne] at npl; exact npl
  refine ⟨by rw [eu]; exact hv_up_eq, by rw [eu, hv_up_ne ne]; exact hv_up_eq, fun z => absurd rfl z, fun k hk => absurd hk (Nat.not_lt_zero k), ⟨nq, np, fun z => absurd rfl z, fun k hk => absurd hk (Nat.not_lt_zero k)⟩, fun i k hi => absurd hi (Nat.not_lt_zero i), fun b e hb => ?_⟩
  rw [eu, hv_up_ne (hv_neN hb nq), hv_up_ne (hv_neN hb np), en, hv_up_ne (hv_neN hb nq)]
  exact hb
set_option maxHeartbeats 4000000 in
set_option maxRecDepth 100000 in
theorem c_X4_makePayment (l : Launch) (G : hv_G) (h : hv) (sz : Nat) {ad : Nat → Nat → Nat} {n d dl : Nat} {dy : Int32} {rf : Int64} {ar : Nat → Nat → Int32} {fm : Nat → Int32} {po : Nat → List (Int32 × Int32 × Int32)} (hD : isD G h ad n d dl dy rf ar fm po) (j : Nat) (hj : j < n) (p0 : Int32) (hn : n ≤ 20) : hv_Mq l yX4_makePayment wsX4_makePayment 10 340 25 113 G h sz [.ref (ad 0 0), .int (nI j), .ref (ad 4 j), .int p0] (fun r u => ∃ (py pl t : Nat) (f : Nat → Nat), r = some py ∧ isY G h u py pl t f (mkP dy n ar j (ar 6 j * p0)) (ar 6 j * p0) 0) := by
  have wX1 : ∀ w ∈ wsX10, w ∈ wsX4_makePayment := by decide +kernel
  have wX2 : ∀ w ∈ wsX20, w ∈ wsX4_makePayment := by decide +kernel
  have wX3 : ∀ w ∈ wsX30, w ∈ wsX4_makePayment := by decide +kernel
  have hD0 := hD
  refine hv_enter (y := yX4_makePayment) (avs := [.ref (ad 0 0), .int (nI j), .ref (ad 4 j), .int p0]) (maxL := 5) (Qf := fun sz => va_Qq (fun r u => ∃ (py pl t : Nat) (f : Nat → Nat), r = some py ∧ isY G h u py pl t f (mkP dy n ar j (ar 6 j * p0)) (ar 6 j * p0) 0) (hv_Bq G h sz) (hv_A h sz)) (by decide) rfl rfl (Nat.le_of_ble_eq_true rfl) ?_
  intro p e s m below meth c hr hnm C I ls hl
  have hl : lv_has ls 5 [(0, .ref (ad 0 0)), (1, .int (nI j)), (2, .ref (ad 4 j)), (3, .int p0)] := hl
  refine hv_new (ci := 3) (fs := [.int 0, .null, .int 0]) (Cn := RX2) (T := TX2) (N := 3) C I wX2 tyX2 tyX2_ok (by decide +kernel) (by decide +kernel) (by decide +kernel) rfl (fun j hj => by rcases (show j = 0 ∨ j = 1 ∨ j = 2 by omega) with rfl | rfl | rfl <;> rfl) (Nat.le_of_ble_eq_true rfl) (Nat.le_of_ble_eq_true rfl) dX4_makePayment_0 (fun q_1 H nq_1 I => ?_)
  obtain ⟨h9, e9⟩ : ∃ z, z = hv_up h q_1 (.inr (3, [.int 0, .null, .int 0])) := ⟨_, rfl⟩
  rw [← e9] at I
  have f9 : h9 q_1 = some (.inr (3, [.int 0, .null, .int 0])) := by rw [e9]; exact hv_up_eq
  have hD : isD G h9 ad n d dl dy rf ar fm po := isD_mono hD0 (fun b e hb => by rw [e9, hv_up_ne (hv_neN hb nq_1)]; exact hb)
  refine lv_dup C.1 C.2.1 dX4_makePayment_3 rfl ?_
  refine lv_aload_n C.1 C.2.1 dX4_makePayment_4 rfl (lv_at hl 2 rfl) ?_
  refine hv_getN (ci := 2) (Cn := RX1) (T := TX1) (N := 6) (ref := "DividendDesk$Holder") (host := "DividendDesk") (v := .int ((ar 6) j)) C I (isD_4 hD hj) wX1 rfl 3 (by decide) (by decide +kernel) (fun _ h9 => h9) rfl dX4_makePayment_5 ?_
  refine lv_iload_n C.1 C.2.1 dX4_makePayment_8 rfl (lv_at hl 3 rfl) ?_
  refine lv_imul C.1 C.2.1 dX4_makePayment_9 ?_
  refine hv_kv I (va_runIN (As := [.int (((ar 6) j) * p0)]) (rest := [.ref q_1]) C.fix (c_X2_init l G h9 _ f9 (((ar 6) j) * p0)) ⟨va_cnB 1 C.2.2.2.2.1 gX4_makePayment_X2_init_n214 rfl rfl rfl (C.nw (w := .methodLinkNest RX4 214 yX2_init "DividendDesk") (by decide +kernel)) (C.ts (by decide +kernel)) (by decide +kernel) ⟨Nat.le_of_ble_eq_true rfl, Nat.le_of_ble_eq_true rfl⟩, rfl, C.ts (by decide +kernel)⟩ (hv_preS C I) rfl rfl hl.1 rfl (lv_room (Nat.le_of_ble_eq_true rfl)) dX4_makePayment_10 ⟨Nat.le_of_ble_eq_true rfl, Nat.le_of_ble_eq_true rfl⟩) (fun u_2 H locs pu_2 I => ?_)
  obtain ⟨pl, npl, eu9⟩ := pu_2
  have hY := isY_new nq_1 e9 npl eu9
  have hD : isD G u_2 ad n d dl dy rf ar fm po := isD_mono hD0 (isY_k hY)
  refine lv_astore (lv' := [(4, .ref q_1), (0, .ref (ad 0 0)), (1, .int (nI j)), (2, .ref (ad 4 j)), (3, .int p0)]) C.1 C.2.1 dX4_makePayment_13 hl (by decide) rfl (fun ls hl => ?_)
  refine lv_aload_n C.1 C.2.1 dX4_makePayment_15 rfl (lv_at hl 3 rfl) ?_
  refine hv_getN (ci := 2) (Cn := RX1) (T := TX1) (N := 6) (ref := "DividendDesk$Holder") (host := "DividendDesk") (v := .int ((ar 4) j)) C I (isD_4 hD hj) wX1 rfl 0 (by decide) (by decide +kernel) (fun _ h9 => h9) rfl dX4_makePayment_16 ?_
  refine lv_iconst (v := 2) C.1 C.2.1 dX4_makePayment_19 (by decide) ?_
  refine lv_icmp_ne (tgt := 34) C.1 C.2.1 dX4_makePayment_20 (by decide) (fun c20 => ?_) (fun c20 => ?_)
  · refine lv_aload C.1 C.2.1 dX4_makePayment_34 (lv_at hl 0 rfl) ?_
    refine hv_new (ci := 4) (fs := [.int 0, .int 0, .int 0]) (Cn := RX3) (T := TX3) (N := 3) C I wX3 tyX3 tyX3_ok (by decide +kernel) (by decide +kernel) (by decide +kernel) rfl (fun j hj => by rcases (show j = 0 ∨ j = 1 ∨ j = 2 by omega) with rfl | rfl | rfl <;> rfl) (Nat.le_of_ble_eq_true rfl) (Nat.le_of_ble_eq_true rfl) dX4_makePayment_36 (fun q_3 H nq_3 I => ?_)
    obtain ⟨h_4, eh_4⟩ : ∃ z, z = hv_up u_2 q_3 (.inr (4, [.int 0, .int 0, .int 0])) := ⟨_, rfl⟩
    rw [← eh_4] at I
    have fq : h_4 q_3 = some (.inr (4, [.int 0, .int 0, .int 0])) := by rw [eh_4]; exact hv_up_eq
    have hYq := isY_up hY nq_3 eh_4
    have hD : isD G h_4 ad n d dl dy rf ar fm po := isD_mono hD0 (isY_k hYq)
    refine lv_dup C.1 C.2.1 dX4_makePayment_39 rfl ?_
    refine lv_aload C.1 C.2.1 dX4_makePayment_40 (lv_at hl 0 rfl) ?_
    refine hv_getN (ci := 3) (Cn := RX2) (T := TX2) (N := 3) (ref := "DividendDesk$Payment") (host := "DividendDesk") (v := .int (ar 6 j * p0)) C I hYq.1 wX2 rfl 0 (by decide) (by decide +kernel) (fun _ h9 => h9) rfl dX4_makePayment_42 ?_
    refine lv_aload_n C.1 C.2.1 dX4_makePayment_45 rfl (lv_at hl 1 rfl) ?_
    refine lv_aload_n C.1 C.2.1 dX4_makePayment_46 rfl (lv_at hl 3 rfl) ?_
    refine hv_ki I (va_runV (As := [.ref (ad 4 j)]) (rest := [.int (ar 6 j * p0), .ref q_3, .ref q_3, .ref q_1]) C.fix (c_X4_ownRate l G h_4 _ hD j hj) (cwV 1 C.2.2.2.2.1 gX4_makePayment_X4_ownRate rfl rfl rfl (by decide +kernel) ⟨Nat.le_of_ble_eq_true rfl, Nat.le_of_ble_eq_true rfl⟩) (hv_preV C I (isD_0 hD) (r := (RX4, TX4, 6)) rfl) rfl rfl hl.1 rfl (lv_room (Nat.le_of_ble_eq_true rfl)) dX4_makePayment_47 ⟨Nat.le_of_ble_eq_true rfl, Nat.le_of_ble_eq_true rfl⟩) (fun ru_5 u_5 H locs pu_5 I => ?_)
    obtain ⟨e1, e2⟩ := pu_5; have e1 := e1.symm; subst e1; have e2 := e2.symm; subst e2
    refine lv_iload_n C.1 C.2.1 dX4_makePayment_50 rfl (lv_at hl 2 rfl) ?_
    refine hv_ki I (va_runS (As := [.int (nI j)]) (rest := [.int (ownF (rD (ar 1) ((ar 5) j)) (rD (ar 2) ((ar 5) j)) (hlg ((ar 4) j) ((ar 6) j) ((ar 8) j) dy)), .int (ar 6 j * p0), .ref q_3, .ref q_3, .ref q_1]) C.fix (c_X4_formOf l G h_4 _ (nI j)) (va_cwS 1 C.2.2.2.2.1 gX4_makePayment_X4_formOf rfl rfl rfl (by decide +kernel) ⟨Nat.le_of_ble_eq_true rfl, Nat.le_of_ble_eq_true rfl⟩) (hv_preS C I) rfl rfl hl.1 rfl (lv_room (Nat.le_of_ble_eq_true rfl)) dX4_makePayment_51 ⟨Nat.le_of_ble_eq_true rfl, Nat.le_of_ble_eq_true rfl⟩) (fun ru_6 u_6 H locs pu_6 I => ?_)
    obtain ⟨e1, e2⟩ := pu_6; have e1 := e1.symm; subst e1; have e2 := e2.symm; subst e2
    refine hv_kv I (va_runIN (As := [.int (ar 6 j * p0), .int (ownF (rD (ar 1) ((ar 5) j)) (rD (ar 2) ((ar 5) j)) (hlg ((ar 4) j) ((ar 6) j) ((ar 8) j) dy)), .int ((1 : Int32) <<< ((nI j) &&& 31))]) (rest := [.ref q_3, .ref q_1]) C.fix (c_X3_init l G h_4 _ fq (ar 6 j * p0) (ownF (rD (ar 1) ((ar 5) j)) (rD (ar 2) ((ar 5) j)) (hlg ((ar 4) j) ((ar 6) j) ((ar 8) j) dy)) ((1 : Int32) <<< ((nI j) &&& 31))) ⟨va_cnB 3 C.2.2.2.2.1 gX4_makePayment_X3_init_n222 rfl rfl rfl (C.nw (w := .methodLinkNest RX4 222 yX3_init "DividendDesk") (by decide +kernel)) (C.ts (by decide +kernel)) (by decide +kernel) ⟨Nat.le_of_ble_eq_true rfl, Nat.le_of_ble_eq_true rfl⟩, rfl, C.ts (by decide +kernel)⟩ (hv_preS C I) rfl rfl hl.1 rfl (lv_room (Nat.le_of_ble_eq_true rfl)) dX4_makePayment_54 ⟨Nat.le_of_ble_eq_true rfl, Nat.le_of_ble_eq_true rfl⟩) (fun u_7 H locs pu_7 I => ?_)
    have eu : u_7 = hv_up u_2 q_3 (poE ((ar 6 j * p0), ownF (rD (ar 1) ((ar 5) j)) (rD (ar 2) ((ar 5) j)) (hlg ((ar 4) j) ((ar 6) j) ((ar 8) j) dy), (1 : Int32) <<< ((nI j) &&& 31))) := by rw [pu_7, eh_4, hv_up_up]
    refine hv_kv I (va_runVN (As := [.ref q_3]) (rest := []) C.fix (c_Y_add l G u_7 _ hY nq_3 eu (by decide)) ⟨va_cnB 1 C.2.2.2.2.1 gX4_makePayment_X2_add_n225 rfl rfl rfl (C.nw (w := .methodLinkNest RX4 225 yX2_add "DividendDesk") (by decide +kernel)) (C.ts (by decide +kernel)) (by decide +kernel) ⟨Nat.le_of_ble_eq_true rfl, Nat.le_of_ble_eq_true rfl⟩, C.ts (by decide +kernel), C.ts (by decide +kernel)⟩ (hv_preV C I (isY_up hY nq_3 eu).1 (r := (RX2, TX2, 3)) rfl) rfl rfl hl.1 rfl (lv_room (Nat.le_of_ble_eq_true rfl)) dX4_makePayment_57 ⟨Nat.le_of_ble_eq_true rfl, Nat.le_of_ble_eq_true rfl⟩) (fun u_8 H locs pu_8 I => ?_)
    obtain ⟨t, f, hY⟩ := pu_8
    have hD : isD G u_8 ad n d dl dy rf ar fm po := isD_mono hD0 (isY_k hY)
    refine lv_aload C.1 C.2.1 dX4_makePayment_60 (lv_at hl 0 rfl) ?_
    exact hv_qret (r := some q_1) C hr (Or.inl ⟨_, rfl⟩) I (⟨q_1, pl, t, f, rfl, by unfold mkP; rw [if_neg c20]; exact hY⟩) dX4_makePayment_62 (Nat.le_of_ble_eq_true rfl) (Nat.le_of_ble_eq_true rfl)
  · refine lv_aload_n C.1 C.2.1 dX4_makePayment_23 rfl (lv_at hl 1 rfl) ?_
    refine lv_aload C.1 C.2.1 dX4_makePayment_24 (lv_at hl 0 rfl) ?_
    refine lv_iload_n C.1 C.2.1 dX4_makePayment_26 rfl (lv_at hl 2 rfl) ?_
    refine lv_aload_n C.1 C.2.1 dX4_makePayment_27 rfl (lv_at hl 3 rfl) ?_
    refine hv_kv I (va_runV (As := [.ref q_1, .int (nI j), .ref (ad 4 j)]) (rest := []) C.fix (c_X4_addPortions l G u_2 _ hD0 hY j hj hn) (cwV 3 C.2.2.2.2.1 gX4_makePayment_X4_addPortions rfl rfl rfl (by decide +kernel) ⟨Nat.le_of_ble_eq_true rfl, Nat.le_of_ble_eq_true rfl⟩) (hv_preV C I (isD_0 hD) (r := (RX4, TX4, 6)) rfl) rfl rfl hl.1 rfl (lv_room (Nat.le_of_ble_eq_true rfl)) dX4_makePayment_28 ⟨Nat.le_of_ble_eq_true rfl, Nat.le_of_ble_eq_true rfl⟩) (fun u_9 H locs pu_9 I => ?_)
    obtain ⟨t, f, hY⟩ := pu_9
    have hD : isD G u_9 ad n d dl dy rf ar fm po := isD_mono hD0 (isY_k hY)
    refine lv_goto (tgt := 60) C.1 C.2.1 dX4_makePayment_31 (by decide) ?_
    refine lv_aload C.1 C.2.1 dX4_makePayment_60 (lv_at hl 0 rfl) ?_
    exact hv_qret (r := some q_1) C hr (Or.inl ⟨_, rfl⟩) I (⟨q_1, pl, t, f, rfl, by unfold mkP; rw [if_pos c20]; exact hY⟩) dX4_makePayment_62 (Nat.le_of_ble_eq_true rfl) (Nat.le_of_ble_eq_true rfl)

set_option maxHeartbeats 4000000 in
set_option maxRecDepth 100000 in
theorem c_X0_init (l : Launch) (G : hv_G) (h : hv) (sz : Nat) {a : Nat} {x0 x1 : Int32} (fa : h a = some (.inr (1, [.int x0, .int x1, .null]))) (p0 p1 : Int32) : hv_Mv l yX0_init wsX0_init 1 40 1 20 G h sz [.ref a, .int p0, .int p1] (fun u => ∃ q : Nat, h q = none ∧ u = hv_up (hv_up h q (.inl (G.2.1 2, 20, .inr (.inr (.inr (.inr (fun _ => none))))))) a (.inr (1, [.int p0, .int p1, .ref q]))) := by
  have wX0 : ∀ w ∈ wsX00, w ∈ wsX0_init := by decide +kernel
  refine hv_enter (y := yX0_init) (avs := [.ref a, .int p0, .int p1]) (maxL := 3) (Qf := fun sz => va_Qv (fun u => ∃ q : Nat, h q = none ∧ u = hv_up (hv_up h q (.inl (G.2.1 2, 20, .inr (.inr (.inr (.inr (fun _ => none))))))) a (.inr (1, [.int p0, .int p1, .ref q]))) (hv_Bq G h sz) (hv_A h sz)) (by decide) rfl rfl (Nat.le_of_ble_eq_true rfl) ?_
  intro p e s m below meth c hr hnm C I ls hl
  have hl : lv_has ls 3 [(0, .ref a), (1, .int p0), (2, .int p1)] := hl
  refine lv_aload_n C.1 C.2.1 dX0_init_0 rfl (lv_at hl 0 rfl) ?_
  refine W.objInit C.1 C.2.1 C.2.2.2.1 (C.ts (w := .methodLink RX0 3 objectInit) (by decide +kernel)) (C.ts (by decide +kernel)) (C.ts (by decide +kernel)) rfl (by rw [C.2.2.1]; exact hl.1) rfl dX0_init_1 (Nat.le_of_ble_eq_true rfl) (Nat.le_of_ble_eq_true rfl) ?_
  refine W.eq (g2 := F0 m 4 ls []) rfl ?_
  refine lv_aload_n C.1 C.2.1 dX0_init_4 rfl (lv_at hl 0 rfl) ?_
  refine lv_bipush (v := 20) C.1 C.2.1 dX0_init_5 (by decide) ?_
  refine hv_newP (N := 20) C I (by decide +kernel) (by decide) (by decide) (by decide) (Nat.le_of_ble_eq_true rfl) (Nat.le_of_ble_eq_true rfl) dX0_init_7 (fun q_1 H nq_1 I => ?_)
  obtain ⟨h_2, eh_2⟩ : ∃ z, z = hv_up h q_1 (.inl (G.2.1 2, 20, .inr (.inr (.inr (.inr (fun _ => none)))))) := ⟨_, rfl⟩
  rw [← eh_2] at I
  have fa9 : h_2 a = some (.inr (1, [.int x0, .int x1, .null])) := by rw [eh_2, hv_up_ne (hv_neN fa nq_1)]; exact fa
  have fa := fa9
  have fq_1 : h_2 q_1 = some (.inl (G.2.1 2, 20, .inr (.inr (.inr (.inr (fun _ => none)))))) := by rw [eh_2]; exact hv_up_eq
  refine hv_putF (ci := 1) (Cn := RX0) (T := TX0) (N := 3) (ref := "DividendDesk$Dividend") (ty := .array (.object "DividendDesk$Payment")) (v := .ref q_1) C I fa wX0 tyX0 tyX0_ok nmX0 rfl 2 (by decide) (by decide +kernel) (fun _ h9 => h9) rfl hnm rfl (by decide +kernel) rfl rfl (Nat.le_of_ble_eq_true rfl) dX0_init_10 (fun H locs I => ?_)
  have I : hv_I G h s (hv_up h_2 a (.inr (1, [.int x0, .int x1, .ref q_1]))) H locs := I
  obtain ⟨h_3, eh_3⟩ : ∃ z, z = hv_up h_2 a (.inr (1, [.int x0, .int x1, .ref q_1])) := ⟨_, rfl⟩
  have I : hv_I G h s h_3 H locs := by rw [eh_3]; exact I
  have fa9 : h_3 a = some (.inr (1, [.int x0, .int x1, .ref q_1])) := by rw [eh_3]; exact hv_up_eq
  have fq_19 : h_3 q_1 = some (.inl (G.2.1 2, 20, .inr (.inr (.inr (.inr (fun _ => none)))))) := by rw [eh_3, hv_up_ne (hv_neAO fq_1 fa)]; exact fq_1
  have fa := fa9
  have fq_1 := fq_19
  refine lv_aload_n C.1 C.2.1 dX0_init_13 rfl (lv_at hl 0 rfl) ?_
  refine lv_iload_n C.1 C.2.1 dX0_init_14 rfl (lv_at hl 1 rfl) ?_
  refine hv_putF (ci := 1) (Cn := RX0) (T := TX0) (N := 3) (ref := "DividendDesk$Dividend") (ty := .int) (v := .int p0) C I fa wX0 tyX0 tyX0_ok nmX0 rfl 0 (by decide) (by decide +kernel) (fun _ h9 => h9) rfl hnm rfl (by decide +kernel) rfl rfl (Nat.le_of_ble_eq_true rfl) dX0_init_15 (fun H locs I => ?_)
  have I : hv_I G h s (hv_up h_3 a (.inr (1, [.int p0, .int x1, .ref q_1]))) H locs := I
  obtain ⟨h_4, eh_4⟩ : ∃ z, z = hv_up h_3 a (.inr (1, [.int p0, .int x1, .ref q_1])) := ⟨_, rfl⟩
  have I : hv_I G h s h_4 H locs := by rw [eh_4]; exact I
  have fa9 : h_4 a = some (.inr (1, [.int p0, .int x1, .ref q_1])) := by rw [eh_4]; exact hv_up_eq
  have fq_19 : h_4 q_1 = some (.inl (G.2.1 2, 20, .inr (.inr (.inr (.inr (fun _ => none)))))) := by rw [eh_4, hv_up_ne (hv_neAO fq_1 fa)]; exact fq_1
  have fa := fa9
  have fq_1 := fq_19
  refine lv_aload_n C.1 C.2.1 dX0_init_18 rfl (lv_at hl 0 rfl) ?_
  refine lv_iload_n C.1 C.2.1 dX0_init_19 rfl (lv_at hl 2 rfl) ?_
  refine hv_putF (ci := 1) (Cn := RX0) (T := TX0) (N := 3) (ref := "DividendDesk$Dividend") (ty := .int) (v := .int p1) C I fa wX0 tyX0 tyX0_ok nmX0 rfl 1 (by decide) (by decide +kernel) (fun _ h9 => h9) rfl hnm rfl (by decide +kernel) rfl rfl (Nat.le_of_ble_eq_true rfl) dX0_init_20 (fun H locs I => ?_)
  have I : hv_I G h s (hv_up h_4 a (.inr (1, [.int p0, .int p1, .ref q_1]))) H locs := I
  obtain ⟨h_5, eh_5⟩ : ∃ z, z = hv_up h_4 a (.inr (1, [.int p0, .int p1, .ref q_1])) := ⟨_, rfl⟩
  have I : hv_I G h s h_5 H locs := by rw [eh_5]; exact I
  have fa9 : h_5 a = some (.inr (1, [.int p0, .int p1, .ref q_1])) := by rw [eh_5]; exact hv_up_eq
  have fq_19 : h_5 q_1 = some (.inl (G.2.1 2, 20, .inr (.inr (.inr (.inr (fun _ => none)))))) := by rw [eh_5, hv_up_ne (hv_neAO fq_1 fa)]; exact fq_1
  have fa := fa9
  have fq_1 := fq_19
  exact hv_vret C hr I (⟨q_1, nq_1, by simp only [eh_5, eh_4, eh_3, eh_2, hv_up_up]⟩) dX0_init_23 (Nat.le_of_ble_eq_true rfl) (Nat.le_of_ble_eq_true rfl)

set_option maxHeartbeats 4000000 in
set_option maxRecDepth 100000 in
theorem c_X0_enter (l : Launch) (G : hv_G) (h : hv) (sz : Nat) {a pa : Nat} {pd fo : Int32} (fa : h a = some (.inr (1, [.int pd, .int fo, .ref pa]))) {f : Nat → Option Nat} (fm : h pa = some (.inl (G.2.1 2, 20, .inr (.inr (.inr (.inr f)))))) {y pl t : Nat} {am he : Int32} (fy : h y = some (.inr (3, [.int am, .ref pl, .int he]))) {L : List (Int32 × Int32 × Int32)} (fl : h pl = some (lObj G t L.length)) {fz : Nat → Nat} (ft : ¬ L.length = 0 → h t = some (lArr G fz L.length)) (fp : ∀ k, k < L.length → h (fz k) = some (poE (L.getD k (0, 0, 0)))) (hL : L.length ≤ 32) (j : Nat) (hj : j < 20) : hv_Mv l yX0_enter wsX0_enter 5 150 0 0 G h sz [.ref a, .int (nI j), .ref y] (fun u => u = hv_up (hv_up h y (.inr (3, [.int am, .ref pl, .int (tall L fo)]))) pa (.inl (G.2.1 2, 20, .inr (.inr (.inr (.inr (va_up f j (some y)))))))) := by
  have wX0 : ∀ w ∈ wsX00, w ∈ wsX0_enter := by decide +kernel
  have wX2 : ∀ w ∈ wsX20, w ∈ wsX0_enter := by decide +kernel
  refine hv_enter (y := yX0_enter) (avs := [.ref a, .int (nI j), .ref y]) (maxL := 3) (Qf := fun sz => va_Qv (fun u => u = hv_up (hv_up h y (.inr (3, [.int am, .ref pl, .int (tall L fo)]))) pa (.inl (G.2.1 2, 20, .inr (.inr (.inr (.inr (va_up f j (some y)))))))) (hv_Bq G h sz) (hv_A h sz)) (by decide) rfl rfl (Nat.le_of_ble_eq_true rfl) ?_
  intro p e s m below meth c hr hnm C I ls hl
  have hl : lv_has ls 3 [(0, .ref a), (1, .int (nI j)), (2, .ref y)] := hl
  refine lv_iload_n C.1 C.2.1 dX0_enter_0 rfl (lv_at hl 1 rfl) ?_
  refine lv_if_lt (tgt := 32) C.1 C.2.1 dX0_enter_1 (by decide) (fun c1 => ?_) (fun c1 => ?_)
  · exact absurd c1 (show ¬ nI j < 0 from nI_nlt (Nat.zero_le _) (by omega))
  · refine lv_iload_n C.1 C.2.1 dX0_enter_4 rfl (lv_at hl 1 rfl) ?_
    refine lv_aload_n C.1 C.2.1 dX0_enter_5 rfl (lv_at hl 0 rfl) ?_
    refine hv_get (ci := 1) (Cn := RX0) (T := TX0) (N := 3) (ref := "DividendDesk$Dividend") (v := .ref pa) C I fa wX0 rfl 2 (by decide) (by decide +kernel) (fun _ h9 => h9) rfl dX0_enter_6 ?_
    refine hv_alen (v := 20) C I fm 2 rfl rfl dX0_enter_9 ?_
    refine lv_icmp_ge (tgt := 32) C.1 C.2.1 dX0_enter_10 (by decide) (fun c10 => ?_) (fun c10 => ?_)
    · exact absurd c10 (fun z => absurd ((nI_leI (a := 20) (b := j) (by decide) (by omega)).mp z) (by omega))
    · refine lv_aload_n C.1 C.2.1 dX0_enter_13 rfl (lv_at hl 2 rfl) ?_
      refine lv_aload_n C.1 C.2.1 dX0_enter_14 rfl (lv_at hl 2 rfl) ?_
      refine lv_aload_n C.1 C.2.1 dX0_enter_15 rfl (lv_at hl 0 rfl) ?_
      refine hv_get (ci := 1) (Cn := RX0) (T := TX0) (N := 3) (ref := "DividendDesk$Dividend") (v := .int fo) C I fa wX0 rfl 1 (by decide) (by decide +kernel) (fun _ h9 => h9) rfl dX0_enter_16 ?_
      refine hv_ki I (va_runVN (As := [.int fo]) (rest := [.ref y]) C.fix (c_X2_taxWith l G h _ fy fl ft fp hL fo) ⟨va_cnB 1 C.2.2.2.2.1 gX0_enter_X2_taxWith_n24 rfl rfl rfl (C.nw (w := .methodLinkNest RX0 24 yX2_taxWith "DividendDesk") (by decide +kernel)) (C.ts (by decide +kernel)) (by decide +kernel) ⟨Nat.le_of_ble_eq_true rfl, Nat.le_of_ble_eq_true rfl⟩, C.ts (by decide +kernel), C.ts (by decide +kernel)⟩ (hv_preV C I fy (r := (RX2, TX2, 3)) rfl) rfl rfl hl.1 rfl (lv_room (Nat.le_of_ble_eq_true rfl)) dX0_enter_19 ⟨Nat.le_of_ble_eq_true rfl, Nat.le_of_ble_eq_true rfl⟩) (fun ru_1 u_1 H locs pu_1 I => ?_)
      obtain ⟨e1, e2⟩ := pu_1; have e1 := e1.symm; subst e1; have e2 := e2.symm; subst e2
      refine hv_putN (ci := 3) (Cn := RX2) (T := TX2) (N := 3) (ref := "DividendDesk$Payment") (host := "DividendDesk") (ty := .int) (v := .int (tall L fo)) C I fy wX2 tyX2 tyX2_ok nmX2 rfl 2 (by decide) (by decide +kernel) (fun _ h9 => h9) rfl (by decide +kernel) rfl rfl (Nat.le_of_ble_eq_true rfl) dX0_enter_22 (fun H locs I => ?_)
      have I : hv_I G h s (hv_up h y (.inr (3, [.int am, .ref pl, .int (tall L fo)]))) H locs := I
      obtain ⟨h_2, eh_2⟩ : ∃ z, z = hv_up h y (.inr (3, [.int am, .ref pl, .int (tall L fo)])) := ⟨_, rfl⟩
      have I : hv_I G h s h_2 H locs := by rw [eh_2]; exact I
      have fa9 : h_2 a = some (.inr (1, [.int pd, .int fo, .ref pa])) := by rw [eh_2, hv_up_ne (hv_neO fa fy (by decide))]; exact fa
      have fm9 : h_2 pa = some (.inl (G.2.1 2, 20, .inr (.inr (.inr (.inr f))))) := by rw [eh_2, hv_up_ne (hv_neAO fm fy)]; exact fm
      have fy9 : h_2 y = some (.inr (3, [.int am, .ref pl, .int (tall L fo)])) := by rw [eh_2]; exact hv_up_eq
      have fa := fa9
      have fm := fm9
      have fy := fy9
      refine lv_aload_n C.1 C.2.1 dX0_enter_25 rfl (lv_at hl 0 rfl) ?_
      refine hv_get (ci := 1) (Cn := RX0) (T := TX0) (N := 3) (ref := "DividendDesk$Dividend") (v := .ref pa) C I fa wX0 rfl 2 (by decide) (by decide +kernel) (fun _ h9 => h9) rfl dX0_enter_26 ?_
      refine lv_iload_n C.1 C.2.1 dX0_enter_29 rfl (lv_at hl 1 rfl) ?_
      refine lv_aload_n C.1 C.2.1 dX0_enter_30 rfl (lv_at hl 2 rfl) ?_
      refine hv_past C I fm fy (vp_in_nI hj (by decide)) dX0_enter_31 (fun H locs I => ?_)
      obtain ⟨h_3, eh_3⟩ : ∃ z, z = hv_up h_2 pa (.inl (G.2.1 2, 20, .inr (.inr (.inr (.inr (va_up f (nI j).toNatClampNeg (some y))))))) := ⟨_, rfl⟩
      have I : hv_I G h s h_3 H locs := by rw [eh_3]; exact I
      have fa9 : h_3 a = some (.inr (1, [.int pd, .int fo, .ref pa])) := by rw [eh_3, hv_up_ne (hv_neOA fa fm)]; exact fa
      have fm9 : h_3 pa = some (.inl (G.2.1 2, 20, .inr (.inr (.inr (.inr (va_up f (nI j).toNatClampNeg (some y))))))) := by rw [eh_3]; exact hv_up_eq
      have fy9 : h_3 y = some (.inr (3, [.int am, .ref pl, .int (tall L fo)])) := by rw [eh_3, hv_up_ne (hv_neOA fy fm)]; exact fy
      have fa := fa9
      have fm := fm9
      have fy := fy9
      exact hv_vret C hr I (by rw [eh_3, eh_2, nI_clamp (by omega)]) dX0_enter_32 (Nat.le_of_ble_eq_true rfl) (Nat.le_of_ble_eq_true rfl)
