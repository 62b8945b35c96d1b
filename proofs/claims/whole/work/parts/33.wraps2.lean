/-! ===== the law's wrappers ===== -/
theorem hv_p1 {α : Type} {P : α → Prop} {x : α} (h : P x) : ∀ z ∈ [x], P z := fun z hz => by rw [List.mem_singleton.mp hz]; exact h
theorem hv_p2 {α : Type} {P : α → Prop} {x y : α} (h : P x) (h2 : P y) : ∀ z ∈ [x, y], P z := fun z hz => by
  rcases List.mem_cons.mp hz with e | hz
  · rw [e]; exact h
  · rw [List.mem_singleton.mp hz]; exact h2
set_option maxHeartbeats 4000000 in
set_option maxRecDepth 100000 in
theorem c_L_setTreaty (l : Launch) (hlt : l.stackTraces = false) (G : hv_G) (hX : hv) (sz : Nat) {ad : Nat → Nat → Nat} {n d dl : Nat} {dy : Int32} {rf : Int64} {ar : Nat → Nat → Int32} {fm : Nat → Int32} {po : Nat → List (Int32 × Int32 × Int32)} (hD : isD G hX ad n d dl dy rf ar fm po) (p0 p1 p2 : Int32) (oa : Nat) (v0 : Int64) (hdis : hv_dis hX (hv_out G oa v0)) : hv_Xi l yL_setTreaty wsL_setTreaty 8 350 2 12 G (hv_j hX (hv_out G oa v0)) sz [.ref (ad 0 0), .int p0, .int p1, .int p2, .ref oa] (fun r u => ∃ (uX : hv) (v : Int64), u = hv_j uX (hv_out G oa v) ∧ hv_dis uX (hv_out G oa v) ∧ ((r = 0 ∧ ∃ r0 : Int32, v = r0.toInt64 ∧ (fun r u => fTr p0 p1 p2 = 0 ∧ r = ar 1 p0.toNatClampNeg ∧ isD G u ad n d dl dy rf (va_up (va_up ar 1 (upd (ar 1) p0.toNatClampNeg p1)) 2 (upd (ar 2) p0.toNatClampNeg p2)) fm po) r0 uX) ∨ (r = fTr p0 p1 p2 ∧ ¬ fTr p0 p1 p2 = 0 ∧ uX = hX))) (fun _ _ => False) := by
  refine hv_enterH (y := yL_setTreaty) (avs := [.ref (ad 0 0), .int p0, .int p1, .int p2, .ref oa]) (maxL := 6) (hh := [(0, 12, 15, 13)]) (Qf := fun sz => va_Qi (fun r u => ∃ (uX : hv) (v : Int64), u = hv_j uX (hv_out G oa v) ∧ hv_dis uX (hv_out G oa v) ∧ ((r = 0 ∧ ∃ r0 : Int32, v = r0.toInt64 ∧ (fun r u => fTr p0 p1 p2 = 0 ∧ r = ar 1 p0.toNatClampNeg ∧ isD G u ad n d dl dy rf (va_up (va_up ar 1 (upd (ar 1) p0.toNatClampNeg p1)) 2 (upd (ar 2) p0.toNatClampNeg p2)) fm po) r0 uX) ∨ (r = fTr p0 p1 p2 ∧ ¬ fTr p0 p1 p2 = 0 ∧ uX = hX))) (hv_Bq G (hv_j hX (hv_out G oa v0)) sz) (hv_A (hv_j hX (hv_out G oa v0)) sz)) (XC := fun sz => hv_X G (hv_j hX (hv_out G oa v0)) sz (fun _ _ => False)) (by decide) rfl rfl (Nat.le_of_ble_eq_true rfl) ?_
  intro p e s m below meth c hr ht C I ls hl
  have hl : lv_has ls 6 [(0, .ref (ad 0 0)), (1, .int p0), (2, .int p1), (3, .int p2), (4, .ref oa)] := hl
  refine lv_aload C.1 C.2.1 dL_setTreaty_0 (lv_at hl 4 rfl) ?_
  refine lv_iconst (v := 0) C.1 C.2.1 dL_setTreaty_2 (by decide) ?_
  refine lv_aload_n C.1 C.2.1 dL_setTreaty_3 rfl (lv_at hl 0 rfl) ?_
  refine lv_iload_n C.1 C.2.1 dL_setTreaty_4 rfl (lv_at hl 1 rfl) ?_
  refine lv_iload_n C.1 C.2.1 dL_setTreaty_5 rfl (lv_at hl 2 rfl) ?_
  refine lv_iload_n C.1 C.2.1 dL_setTreaty_6 rfl (lv_at hl 3 rfl) ?_
  refine hv_fxki I hdis (vx_runV (As := [.int p0, .int p1, .int p2]) (rest := [.int 0, .ref oa]) C.fix (c_X4_setTreaty l hlt G hX _ hD p0 p1 p2) (cwV 3 C.2.2.2.2.1 gL_setTreaty_X4_setTreaty rfl rfl rfl (by decide +kernel) ⟨Nat.le_of_ble_eq_true rfl, Nat.le_of_ble_eq_true rfl⟩) (hv_preV C I.left (isD_0 hD) (r := (RX4, TX4, 6)) rfl) rfl rfl hl.1 rfl (lv_room (Nat.le_of_ble_eq_true rfl)) dL_setTreaty_7 ⟨Nat.le_of_ble_eq_true rfl, Nat.le_of_ble_eq_true rfl⟩) (fun E ce q9 u H locs hpx du I hq9 hv9 hcl9 => ?_) (fun r u H locs hp du I => ?_)
  · obtain ⟨e1, hE⟩ := hpx
    have e1 := e1.symm
    subst e1
    obtain ⟨eF, rfl⟩ := hE
    refine vx_catch (name := "java/lang/IllegalArgumentException") C.2.2.2.1 [] ⟨0, 12, 15, 13⟩ [] (ht.trans rfl) (fun z hz => by cases hz) (by decide) (by decide) (C.ts (by decide +kernel)) (va_Nw.use rfl (C.nw (by decide +kernel))) hq9 hv9 hcl9 ?_
    refine lv_astore (lv' := [(5, .ref q9), (0, .ref (ad 0 0)), (1, .int p0), (2, .int p1), (3, .int p2), (4, .ref oa)]) C.1 C.2.1 dL_setTreaty_15 hl (by decide) rfl (fun ls hl => ?_)
    refine lv_iconst (v := 1) C.1 C.2.1 dL_setTreaty_17 (by decide) ?_
    exact vx_ret (hv_iret (v := 1) C hr I ⟨hX, v0, rfl, du, Or.inr ⟨eF.symm, fun z => absurd (eF.symm.trans z) (by decide), rfl⟩⟩ dL_setTreaty_18 (Nat.le_of_ble_eq_true rfl) (Nat.le_of_ble_eq_true rfl))
  · refine lv_i2l C.1 C.2.1 dL_setTreaty_10 rfl ?_
    refine hv_last C I (hv_j_b du (hv_out_eq G oa v0)) (i := 0) (show vp_in (nI 0) 1 from vp_in_nI (by decide) (by decide)) dL_setTreaty_11 (fun H locs I => ?_)
    have du2 : hv_dis u (hv_out G oa r.toInt64) := by rw [← hv_out_st G oa v0]; exact hv_dis_up du (hv_out_eq G oa v0)
    have I : hv_I G (hv_j hX (hv_out G oa v0)) s (hv_j u (hv_out G oa r.toInt64)) H locs := by rw [← hv_out_st G oa v0 r.toInt64, ← hv_j_up du (hv_out_eq G oa v0)]; exact I
    refine lv_goto (tgt := 19) C.1 C.2.1 dL_setTreaty_12 (by decide) ?_
    refine lv_iconst (v := 0) C.1 C.2.1 dL_setTreaty_19 (by decide) ?_
    exact vx_ret (hv_iret (v := 0) C hr I ⟨u, r.toInt64, rfl, du2, Or.inl ⟨rfl, r, rfl, hp⟩⟩ dL_setTreaty_20 (Nat.le_of_ble_eq_true rfl) (Nat.le_of_ble_eq_true rfl))

set_option maxHeartbeats 4000000 in
set_option maxRecDepth 100000 in
theorem c_L_addHolder (l : Launch) (hlt : l.stackTraces = false) (G : hv_G) (hX : hv) (sz : Nat) {ad : Nat → Nat → Nat} {n d dl : Nat} {dy : Int32} {rf : Int64} {ar : Nat → Nat → Int32} {fm : Nat → Int32} {po : Nat → List (Int32 × Int32 × Int32)} (hD : isD G hX ad n d dl dy rf ar fm po) (p0 p1 : Int32) (hn : n ≤ 20) (hz : n < 20 → ar 6 n = 0 ∧ ar 7 n = -1 ∧ ar 8 n = -1 ∧ ∀ k, k < 20 → ar 9 (20 * n + k) = 0) (oa : Nat) (v0 : Int64) (hdis : hv_dis hX (hv_out G oa v0)) : hv_Xi l yL_addHolder wsL_addHolder 11 500 3 75 G (hv_j hX (hv_out G oa v0)) sz [.ref (ad 0 0), .int p0, .int p1, .ref oa] (fun r u => ∃ (uX : hv) (v : Int64), u = hv_j uX (hv_out G oa v) ∧ hv_dis uX (hv_out G oa v) ∧ ((r = 0 ∧ ∃ r0 : Int32, v = r0.toInt64 ∧ (fun r u => fAh p0 p1 n = 0 ∧ r = nI n ∧ ∃ ad2, ad2 0 0 = ad 0 0 ∧ isD G u ad2 (n + 1) d dl dy rf (va_up (va_up ar 4 (upd (ar 4) n p0)) 5 (upd (ar 5) n p1)) fm po) r0 uX) ∨ (r = fAh p0 p1 n ∧ ¬ fAh p0 p1 n = 0 ∧ uX = hX))) (fun _ _ => False) := by
  refine hv_enterH (y := yL_addHolder) (avs := [.ref (ad 0 0), .int p0, .int p1, .ref oa]) (maxL := 5) (hh := [(0, 10, 13, 13), (0, 10, 17, 19)]) (Qf := fun sz => va_Qi (fun r u => ∃ (uX : hv) (v : Int64), u = hv_j uX (hv_out G oa v) ∧ hv_dis uX (hv_out G oa v) ∧ ((r = 0 ∧ ∃ r0 : Int32, v = r0.toInt64 ∧ (fun r u => fAh p0 p1 n = 0 ∧ r = nI n ∧ ∃ ad2, ad2 0 0 = ad 0 0 ∧ isD G u ad2 (n + 1) d dl dy rf (va_up (va_up ar 4 (upd (ar 4) n p0)) 5 (upd (ar 5) n p1)) fm po) r0 uX) ∨ (r = fAh p0 p1 n ∧ ¬ fAh p0 p1 n = 0 ∧ uX = hX))) (hv_Bq G (hv_j hX (hv_out G oa v0)) sz) (hv_A (hv_j hX (hv_out G oa v0)) sz)) (XC := fun sz => hv_X G (hv_j hX (hv_out G oa v0)) sz (fun _ _ => False)) (by decide) rfl rfl (Nat.le_of_ble_eq_true rfl) ?_
  intro p e s m below meth c hr ht C I ls hl
  have hl : lv_has ls 5 [(0, .ref (ad 0 0)), (1, .int p0), (2, .int p1), (3, .ref oa)] := hl
  refine lv_aload_n C.1 C.2.1 dL_addHolder_0 rfl (lv_at hl 3 rfl) ?_
  refine lv_iconst (v := 0) C.1 C.2.1 dL_addHolder_1 (by decide) ?_
  refine lv_aload_n C.1 C.2.1 dL_addHolder_2 rfl (lv_at hl 0 rfl) ?_
  refine lv_iload_n C.1 C.2.1 dL_addHolder_3 rfl (lv_at hl 1 rfl) ?_
  refine lv_iload_n C.1 C.2.1 dL_addHolder_4 rfl (lv_at hl 2 rfl) ?_
  refine hv_fxki I hdis (vx_runV (As := [.int p0, .int p1]) (rest := [.int 0, .ref oa]) C.fix (c_X4_addHolder l hlt G hX _ hD p0 p1 hn hz) (cwV 2 C.2.2.2.2.1 gL_addHolder_X4_addHolder rfl rfl rfl (by decide +kernel) ⟨Nat.le_of_ble_eq_true rfl, Nat.le_of_ble_eq_true rfl⟩) (hv_preV C I.left (isD_0 hD) (r := (RX4, TX4, 6)) rfl) rfl rfl hl.1 rfl (lv_room (Nat.le_of_ble_eq_true rfl)) dL_addHolder_5 ⟨Nat.le_of_ble_eq_true rfl, Nat.le_of_ble_eq_true rfl⟩) (fun E ce q9 u H locs hpx du I hq9 hv9 hcl9 => ?_) (fun r u H locs hp du I => ?_)
  · obtain ⟨e1, hE⟩ := hpx
    have e1 := e1.symm
    subst e1
    rcases hE with ⟨eF, rfl⟩ | ⟨eF, rfl⟩
    · refine vx_catch (name := "java/lang/IllegalArgumentException") C.2.2.2.1 [] ⟨0, 10, 13, 13⟩ [⟨0, 10, 17, 19⟩] (ht.trans rfl) (fun z hz => by cases hz) (by decide) (by decide) (C.ts (by decide +kernel)) (va_Nw.use rfl (C.nw (by decide +kernel))) hq9 hv9 hcl9 ?_
      refine lv_astore (lv' := [(4, .ref q9), (0, .ref (ad 0 0)), (1, .int p0), (2, .int p1), (3, .ref oa)]) C.1 C.2.1 dL_addHolder_13 hl (by decide) rfl (fun ls hl => ?_)
      refine lv_iconst (v := 1) C.1 C.2.1 dL_addHolder_15 (by decide) ?_
      exact vx_ret (hv_iret (v := 1) C hr I ⟨hX, v0, rfl, du, Or.inr ⟨eF.symm, fun z => absurd (eF.symm.trans z) (by decide), rfl⟩⟩ dL_addHolder_16 (Nat.le_of_ble_eq_true rfl) (Nat.le_of_ble_eq_true rfl))
    · refine vx_catch (name := "java/lang/IllegalStateException") C.2.2.2.1 [⟨0, 10, 13, 13⟩] ⟨0, 10, 17, 19⟩ [] (ht.trans rfl) (hv_p1 (Or.inr ⟨by decide, "java/lang/IllegalArgumentException", C.ts (by decide +kernel), C.E.2.2.2.2.2.2.2 ("java/lang/IllegalStateException", "java/lang/IllegalArgumentException") (by decide)⟩)) (by decide) (by decide) (C.ts (by decide +kernel)) (va_Nw.use rfl (C.nw (by decide +kernel))) hq9 hv9 hcl9 ?_
      refine lv_astore (lv' := [(4, .ref q9), (0, .ref (ad 0 0)), (1, .int p0), (2, .int p1), (3, .ref oa)]) C.1 C.2.1 dL_addHolder_17 hl (by decide) rfl (fun ls hl => ?_)
      refine lv_iconst (v := 2) C.1 C.2.1 dL_addHolder_19 (by decide) ?_
      exact vx_ret (hv_iret (v := 2) C hr I ⟨hX, v0, rfl, du, Or.inr ⟨eF.symm, fun z => absurd (eF.symm.trans z) (by decide), rfl⟩⟩ dL_addHolder_20 (Nat.le_of_ble_eq_true rfl) (Nat.le_of_ble_eq_true rfl))
  · refine lv_i2l C.1 C.2.1 dL_addHolder_8 rfl ?_
    refine hv_last C I (hv_j_b du (hv_out_eq G oa v0)) (i := 0) (show vp_in (nI 0) 1 from vp_in_nI (by decide) (by decide)) dL_addHolder_9 (fun H locs I => ?_)
    have du2 : hv_dis u (hv_out G oa r.toInt64) := by rw [← hv_out_st G oa v0]; exact hv_dis_up du (hv_out_eq G oa v0)
    have I : hv_I G (hv_j hX (hv_out G oa v0)) s (hv_j u (hv_out G oa r.toInt64)) H locs := by rw [← hv_out_st G oa v0 r.toInt64, ← hv_j_up du (hv_out_eq G oa v0)]; exact I
    refine lv_goto (tgt := 21) C.1 C.2.1 dL_addHolder_10 (by decide) ?_
    refine lv_iconst (v := 0) C.1 C.2.1 dL_addHolder_21 (by decide) ?_
    exact vx_ret (hv_iret (v := 0) C hr I ⟨u, r.toInt64, rfl, du2, Or.inl ⟨rfl, r, rfl, hp⟩⟩ dL_addHolder_22 (Nat.le_of_ble_eq_true rfl) (Nat.le_of_ble_eq_true rfl))

set_option maxHeartbeats 4000000 in
set_option maxRecDepth 100000 in
theorem c_L_setParts (l : Launch) (hlt : l.stackTraces = false) (G : hv_G) (hX : hv) (sz : Nat) {ad : Nat → Nat → Nat} {n d dl : Nat} {dy : Int32} {rf : Int64} {ar : Nat → Nat → Int32} {fm : Nat → Int32} {po : Nat → List (Int32 × Int32 × Int32)} (hD : isD G hX ad n d dl dy rf ar fm po) (p0 p1 p2 : Int32) (hn : n ≤ 20) (oa : Nat) (v0 : Int64) (hdis : hv_dis hX (hv_out G oa v0)) : hv_Xi l yL_setParts wsL_setParts 9 450 3 18 G (hv_j hX (hv_out G oa v0)) sz [.ref (ad 0 0), .int p0, .int p1, .int p2, .ref oa] (fun r u => ∃ (uX : hv) (v : Int64), u = hv_j uX (hv_out G oa v) ∧ hv_dis uX (hv_out G oa v) ∧ ((r = 0 ∧ ∃ r0 : Int32, v = r0.toInt64 ∧ (fun r u => fSp p0 p1 p2 n (ar 4) = 0 ∧ r = ar 9 (20 * p0.toNatClampNeg + p1.toNatClampNeg) ∧ isD G u ad n d dl dy rf (va_up ar 9 (upd (ar 9) (20 * p0.toNatClampNeg + p1.toNatClampNeg) p2)) fm po) r0 uX) ∨ (r = fSp p0 p1 p2 n (ar 4) ∧ ¬ fSp p0 p1 p2 n (ar 4) = 0 ∧ uX = hX))) (fun _ _ => False) := by
  refine hv_enterH (y := yL_setParts) (avs := [.ref (ad 0 0), .int p0, .int p1, .int p2, .ref oa]) (maxL := 6) (hh := [(0, 12, 15, 24), (0, 12, 19, 13)]) (Qf := fun sz => va_Qi (fun r u => ∃ (uX : hv) (v : Int64), u = hv_j uX (hv_out G oa v) ∧ hv_dis uX (hv_out G oa v) ∧ ((r = 0 ∧ ∃ r0 : Int32, v = r0.toInt64 ∧ (fun r u => fSp p0 p1 p2 n (ar 4) = 0 ∧ r = ar 9 (20 * p0.toNatClampNeg + p1.toNatClampNeg) ∧ isD G u ad n d dl dy rf (va_up ar 9 (upd (ar 9) (20 * p0.toNatClampNeg + p1.toNatClampNeg) p2)) fm po) r0 uX) ∨ (r = fSp p0 p1 p2 n (ar 4) ∧ ¬ fSp p0 p1 p2 n (ar 4) = 0 ∧ uX = hX))) (hv_Bq G (hv_j hX (hv_out G oa v0)) sz) (hv_A (hv_j hX (hv_out G oa v0)) sz)) (XC := fun sz => hv_X G (hv_j hX (hv_out G oa v0)) sz (fun _ _ => False)) (by decide) rfl rfl (Nat.le_of_ble_eq_true rfl) ?_
  intro p e s m below meth c hr ht C I ls hl
  have hl : lv_has ls 6 [(0, .ref (ad 0 0)), (1, .int p0), (2, .int p1), (3, .int p2), (4, .ref oa)] := hl
  refine lv_aload C.1 C.2.1 dL_setParts_0 (lv_at hl 4 rfl) ?_
  refine lv_iconst (v := 0) C.1 C.2.1 dL_setParts_2 (by decide) ?_
  refine lv_aload_n C.1 C.2.1 dL_setParts_3 rfl (lv_at hl 0 rfl) ?_
  refine lv_iload_n C.1 C.2.1 dL_setParts_4 rfl (lv_at hl 1 rfl) ?_
  refine lv_iload_n C.1 C.2.1 dL_setParts_5 rfl (lv_at hl 2 rfl) ?_
  refine lv_iload_n C.1 C.2.1 dL_setParts_6 rfl (lv_at hl 3 rfl) ?_
  refine hv_fxki I hdis (vx_runV (As := [.int p0, .int p1, .int p2]) (rest := [.int 0, .ref oa]) C.fix (c_X4_setParts l hlt G hX _ hD p0 p1 p2 hn) (cwV 3 C.2.2.2.2.1 gL_setParts_X4_setParts rfl rfl rfl (by decide +kernel) ⟨Nat.le_of_ble_eq_true rfl, Nat.le_of_ble_eq_true rfl⟩) (hv_preV C I.left (isD_0 hD) (r := (RX4, TX4, 6)) rfl) rfl rfl hl.1 rfl (lv_room (Nat.le_of_ble_eq_true rfl)) dL_setParts_7 ⟨Nat.le_of_ble_eq_true rfl, Nat.le_of_ble_eq_true rfl⟩) (fun E ce q9 u H locs hpx du I hq9 hv9 hcl9 => ?_) (fun r u H locs hp du I => ?_)
  · obtain ⟨e1, hE⟩ := hpx
    have e1 := e1.symm
    subst e1
    rcases hE with ⟨eF, rfl⟩ | ⟨eF, rfl⟩
    · refine vx_catch (name := "java/lang/IndexOutOfBoundsException") C.2.2.2.1 [] ⟨0, 12, 15, 24⟩ [⟨0, 12, 19, 13⟩] (ht.trans rfl) (fun z hz => by cases hz) (by decide) (by decide) (C.ts (by decide +kernel)) (va_Nw.use rfl (C.nw (by decide +kernel))) hq9 hv9 hcl9 ?_
      refine lv_astore (lv' := [(5, .ref q9), (0, .ref (ad 0 0)), (1, .int p0), (2, .int p1), (3, .int p2), (4, .ref oa)]) C.1 C.2.1 dL_setParts_15 hl (by decide) rfl (fun ls hl => ?_)
      refine lv_iconst (v := 1) C.1 C.2.1 dL_setParts_17 (by decide) ?_
      exact vx_ret (hv_iret (v := 1) C hr I ⟨hX, v0, rfl, du, Or.inr ⟨eF.symm, fun z => absurd (eF.symm.trans z) (by decide), rfl⟩⟩ dL_setParts_18 (Nat.le_of_ble_eq_true rfl) (Nat.le_of_ble_eq_true rfl))
    · refine vx_catch (name := "java/lang/IllegalArgumentException") C.2.2.2.1 [⟨0, 12, 15, 24⟩] ⟨0, 12, 19, 13⟩ [] (ht.trans rfl) (hv_p1 (Or.inr ⟨by decide, "java/lang/IndexOutOfBoundsException", C.ts (by decide +kernel), C.E.2.2.2.2.2.2.2 ("java/lang/IllegalArgumentException", "java/lang/IndexOutOfBoundsException") (by decide)⟩)) (by decide) (by decide) (C.ts (by decide +kernel)) (va_Nw.use rfl (C.nw (by decide +kernel))) hq9 hv9 hcl9 ?_
      refine lv_astore (lv' := [(5, .ref q9), (0, .ref (ad 0 0)), (1, .int p0), (2, .int p1), (3, .int p2), (4, .ref oa)]) C.1 C.2.1 dL_setParts_19 hl (by decide) rfl (fun ls hl => ?_)
      refine lv_iconst (v := 2) C.1 C.2.1 dL_setParts_21 (by decide) ?_
      exact vx_ret (hv_iret (v := 2) C hr I ⟨hX, v0, rfl, du, Or.inr ⟨eF.symm, fun z => absurd (eF.symm.trans z) (by decide), rfl⟩⟩ dL_setParts_22 (Nat.le_of_ble_eq_true rfl) (Nat.le_of_ble_eq_true rfl))
  · refine lv_i2l C.1 C.2.1 dL_setParts_10 rfl ?_
    refine hv_last C I (hv_j_b du (hv_out_eq G oa v0)) (i := 0) (show vp_in (nI 0) 1 from vp_in_nI (by decide) (by decide)) dL_setParts_11 (fun H locs I => ?_)
    have du2 : hv_dis u (hv_out G oa r.toInt64) := by rw [← hv_out_st G oa v0]; exact hv_dis_up du (hv_out_eq G oa v0)
    have I : hv_I G (hv_j hX (hv_out G oa v0)) s (hv_j u (hv_out G oa r.toInt64)) H locs := by rw [← hv_out_st G oa v0 r.toInt64, ← hv_j_up du (hv_out_eq G oa v0)]; exact I
    refine lv_goto (tgt := 23) C.1 C.2.1 dL_setParts_12 (by decide) ?_
    refine lv_iconst (v := 0) C.1 C.2.1 dL_setParts_23 (by decide) ?_
    exact vx_ret (hv_iret (v := 0) C hr I ⟨u, r.toInt64, rfl, du2, Or.inl ⟨rfl, r, rfl, hp⟩⟩ dL_setParts_24 (Nat.le_of_ble_eq_true rfl) (Nat.le_of_ble_eq_true rfl))

set_option maxHeartbeats 4000000 in
set_option maxRecDepth 100000 in
theorem c_L_setShares (l : Launch) (hlt : l.stackTraces = false) (G : hv_G) (hX : hv) (sz : Nat) {ad : Nat → Nat → Nat} {n d dl : Nat} {dy : Int32} {rf : Int64} {ar : Nat → Nat → Int32} {fm : Nat → Int32} {po : Nat → List (Int32 × Int32 × Int32)} (hD : isD G hX ad n d dl dy rf ar fm po) (p0 p1 : Int32) (hn : n ≤ 20) (oa : Nat) (v0 : Int64) (hdis : hv_dis hX (hv_out G oa v0)) : hv_Xi l yL_setShares wsL_setShares 9 350 2 12 G (hv_j hX (hv_out G oa v0)) sz [.ref (ad 0 0), .int p0, .int p1, .ref oa] (fun r u => ∃ (uX : hv) (v : Int64), u = hv_j uX (hv_out G oa v) ∧ hv_dis uX (hv_out G oa v) ∧ ((r = 0 ∧ ∃ r0 : Int32, v = r0.toInt64 ∧ (fun r u => fSs p0 p1 n (ar 6) = 0 ∧ r = ar 6 p0.toNatClampNeg ∧ isD G u ad n d dl dy rf (va_up ar 6 (upd (ar 6) p0.toNatClampNeg p1)) fm po) r0 uX) ∨ (r = fSs p0 p1 n (ar 6) ∧ ¬ fSs p0 p1 n (ar 6) = 0 ∧ uX = hX))) (fun _ _ => False) := by
  refine hv_enterH (y := yL_setShares) (avs := [.ref (ad 0 0), .int p0, .int p1, .ref oa]) (maxL := 5) (hh := [(0, 10, 13, 24), (0, 10, 17, 13), (0, 10, 21, 19)]) (Qf := fun sz => va_Qi (fun r u => ∃ (uX : hv) (v : Int64), u = hv_j uX (hv_out G oa v) ∧ hv_dis uX (hv_out G oa v) ∧ ((r = 0 ∧ ∃ r0 : Int32, v = r0.toInt64 ∧ (fun r u => fSs p0 p1 n (ar 6) = 0 ∧ r = ar 6 p0.toNatClampNeg ∧ isD G u ad n d dl dy rf (va_up ar 6 (upd (ar 6) p0.toNatClampNeg p1)) fm po) r0 uX) ∨ (r = fSs p0 p1 n (ar 6) ∧ ¬ fSs p0 p1 n (ar 6) = 0 ∧ uX = hX))) (hv_Bq G (hv_j hX (hv_out G oa v0)) sz) (hv_A (hv_j hX (hv_out G oa v0)) sz)) (XC := fun sz => hv_X G (hv_j hX (hv_out G oa v0)) sz (fun _ _ => False)) (by decide) rfl rfl (Nat.le_of_ble_eq_true rfl) ?_
  intro p e s m below meth c hr ht C I ls hl
  have hl : lv_has ls 5 [(0, .ref (ad 0 0)), (1, .int p0), (2, .int p1), (3, .ref oa)] := hl
  refine lv_aload_n C.1 C.2.1 dL_setShares_0 rfl (lv_at hl 3 rfl) ?_
  refine lv_iconst (v := 0) C.1 C.2.1 dL_setShares_1 (by decide) ?_
  refine lv_aload_n C.1 C.2.1 dL_setShares_2 rfl (lv_at hl 0 rfl) ?_
  refine lv_iload_n C.1 C.2.1 dL_setShares_3 rfl (lv_at hl 1 rfl) ?_
  refine lv_iload_n C.1 C.2.1 dL_setShares_4 rfl (lv_at hl 2 rfl) ?_
  refine hv_fxki I hdis (vx_runV (As := [.int p0, .int p1]) (rest := [.int 0, .ref oa]) C.fix (c_X4_setShares l hlt G hX _ hD p0 p1 hn) (cwV 2 C.2.2.2.2.1 gL_setShares_X4_setShares rfl rfl rfl (by decide +kernel) ⟨Nat.le_of_ble_eq_true rfl, Nat.le_of_ble_eq_true rfl⟩) (hv_preV C I.left (isD_0 hD) (r := (RX4, TX4, 6)) rfl) rfl rfl hl.1 rfl (lv_room (Nat.le_of_ble_eq_true rfl)) dL_setShares_5 ⟨Nat.le_of_ble_eq_true rfl, Nat.le_of_ble_eq_true rfl⟩) (fun E ce q9 u H locs hpx du I hq9 hv9 hcl9 => ?_) (fun r u H locs hp du I => ?_)
  · obtain ⟨e1, hE⟩ := hpx
    have e1 := e1.symm
    subst e1
    rcases hE with ⟨eF, rfl⟩ | ⟨eF, rfl⟩ | ⟨eF, rfl⟩
    · refine vx_catch (name := "java/lang/IndexOutOfBoundsException") C.2.2.2.1 [] ⟨0, 10, 13, 24⟩ [⟨0, 10, 17, 13⟩, ⟨0, 10, 21, 19⟩] (ht.trans rfl) (fun z hz => by cases hz) (by decide) (by decide) (C.ts (by decide +kernel)) (va_Nw.use rfl (C.nw (by decide +kernel))) hq9 hv9 hcl9 ?_
      refine lv_astore (lv' := [(4, .ref q9), (0, .ref (ad 0 0)), (1, .int p0), (2, .int p1), (3, .ref oa)]) C.1 C.2.1 dL_setShares_13 hl (by decide) rfl (fun ls hl => ?_)
      refine lv_iconst (v := 1) C.1 C.2.1 dL_setShares_15 (by decide) ?_
      exact vx_ret (hv_iret (v := 1) C hr I ⟨hX, v0, rfl, du, Or.inr ⟨eF.symm, fun z => absurd (eF.symm.trans z) (by decide), rfl⟩⟩ dL_setShares_16 (Nat.le_of_ble_eq_true rfl) (Nat.le_of_ble_eq_true rfl))
    · refine vx_catch (name := "java/lang/IllegalArgumentException") C.2.2.2.1 [⟨0, 10, 13, 24⟩] ⟨0, 10, 17, 13⟩ [⟨0, 10, 21, 19⟩] (ht.trans rfl) (hv_p1 (Or.inr ⟨by decide, "java/lang/IndexOutOfBoundsException", C.ts (by decide +kernel), C.E.2.2.2.2.2.2.2 ("java/lang/IllegalArgumentException", "java/lang/IndexOutOfBoundsException") (by decide)⟩)) (by decide) (by decide) (C.ts (by decide +kernel)) (va_Nw.use rfl (C.nw (by decide +kernel))) hq9 hv9 hcl9 ?_
      refine lv_astore (lv' := [(4, .ref q9), (0, .ref (ad 0 0)), (1, .int p0), (2, .int p1), (3, .ref oa)]) C.1 C.2.1 dL_setShares_17 hl (by decide) rfl (fun ls hl => ?_)
      refine lv_iconst (v := 2) C.1 C.2.1 dL_setShares_19 (by decide) ?_
      exact vx_ret (hv_iret (v := 2) C hr I ⟨hX, v0, rfl, du, Or.inr ⟨eF.symm, fun z => absurd (eF.symm.trans z) (by decide), rfl⟩⟩ dL_setShares_20 (Nat.le_of_ble_eq_true rfl) (Nat.le_of_ble_eq_true rfl))
    · refine vx_catch (name := "java/lang/IllegalStateException") C.2.2.2.1 [⟨0, 10, 13, 24⟩, ⟨0, 10, 17, 13⟩] ⟨0, 10, 21, 19⟩ [] (ht.trans rfl) (hv_p2 (Or.inr ⟨by decide, "java/lang/IndexOutOfBoundsException", C.ts (by decide +kernel), C.E.2.2.2.2.2.2.2 ("java/lang/IllegalStateException", "java/lang/IndexOutOfBoundsException") (by decide)⟩) (Or.inr ⟨by decide, "java/lang/IllegalArgumentException", C.ts (by decide +kernel), C.E.2.2.2.2.2.2.2 ("java/lang/IllegalStateException", "java/lang/IllegalArgumentException") (by decide)⟩)) (by decide) (by decide) (C.ts (by decide +kernel)) (va_Nw.use rfl (C.nw (by decide +kernel))) hq9 hv9 hcl9 ?_
      refine lv_astore (lv' := [(4, .ref q9), (0, .ref (ad 0 0)), (1, .int p0), (2, .int p1), (3, .ref oa)]) C.1 C.2.1 dL_setShares_21 hl (by decide) rfl (fun ls hl => ?_)
      refine lv_iconst (v := 3) C.1 C.2.1 dL_setShares_23 (by decide) ?_
      exact vx_ret (hv_iret (v := 3) C hr I ⟨hX, v0, rfl, du, Or.inr ⟨eF.symm, fun z => absurd (eF.symm.trans z) (by decide), rfl⟩⟩ dL_setShares_24 (Nat.le_of_ble_eq_true rfl) (Nat.le_of_ble_eq_true rfl))
  · refine lv_i2l C.1 C.2.1 dL_setShares_8 rfl ?_
    refine hv_last C I (hv_j_b du (hv_out_eq G oa v0)) (i := 0) (show vp_in (nI 0) 1 from vp_in_nI (by decide) (by decide)) dL_setShares_9 (fun H locs I => ?_)
    have du2 : hv_dis u (hv_out G oa r.toInt64) := by rw [← hv_out_st G oa v0]; exact hv_dis_up du (hv_out_eq G oa v0)
    have I : hv_I G (hv_j hX (hv_out G oa v0)) s (hv_j u (hv_out G oa r.toInt64)) H locs := by rw [← hv_out_st G oa v0 r.toInt64, ← hv_j_up du (hv_out_eq G oa v0)]; exact I
    refine lv_goto (tgt := 25) C.1 C.2.1 dL_setShares_10 (by decide) ?_
    refine lv_iconst (v := 0) C.1 C.2.1 dL_setShares_25 (by decide) ?_
    exact vx_ret (hv_iret (v := 0) C hr I ⟨u, r.toInt64, rfl, du2, Or.inl ⟨rfl, r, rfl, hp⟩⟩ dL_setShares_26 (Nat.le_of_ble_eq_true rfl) (Nat.le_of_ble_eq_true rfl))

set_option maxHeartbeats 4000000 in
set_option maxRecDepth 100000 in
theorem c_L_giveForm (l : Launch) (hlt : l.stackTraces = false) (G : hv_G) (hX : hv) (sz : Nat) {ad : Nat → Nat → Nat} {n d dl : Nat} {dy : Int32} {rf : Int64} {ar : Nat → Nat → Int32} {fm : Nat → Int32} {po : Nat → List (Int32 × Int32 × Int32)} (hD : isD G hX ad n d dl dy rf ar fm po) (p0 : Int32) (hn : n ≤ 20) (oa : Nat) (v0 : Int64) (hdis : hv_dis hX (hv_out G oa v0)) : hv_Xi l yL_giveForm wsL_giveForm 9 350 2 12 G (hv_j hX (hv_out G oa v0)) sz [.ref (ad 0 0), .int p0, .ref oa] (fun r u => ∃ (uX : hv) (v : Int64), u = hv_j uX (hv_out G oa v) ∧ hv_dis uX (hv_out G oa v) ∧ ((r = 0 ∧ ∃ r0 : Int32, v = r0.toInt64 ∧ (fun r u => fGf p0 n = 0 ∧ r = dy + 1080 ∧ isD G u ad n d dl dy rf (va_up ar 7 (upd (ar 7) p0.toNatClampNeg (dy + 1080))) fm po) r0 uX) ∨ (r = fGf p0 n ∧ ¬ fGf p0 n = 0 ∧ uX = hX))) (fun _ _ => False) := by
  refine hv_enterH (y := yL_giveForm) (avs := [.ref (ad 0 0), .int p0, .ref oa]) (maxL := 4) (hh := [(0, 9, 12, 24)]) (Qf := fun sz => va_Qi (fun r u => ∃ (uX : hv) (v : Int64), u = hv_j uX (hv_out G oa v) ∧ hv_dis uX (hv_out G oa v) ∧ ((r = 0 ∧ ∃ r0 : Int32, v = r0.toInt64 ∧ (fun r u => fGf p0 n = 0 ∧ r = dy + 1080 ∧ isD G u ad n d dl dy rf (va_up ar 7 (upd (ar 7) p0.toNatClampNeg (dy + 1080))) fm po) r0 uX) ∨ (r = fGf p0 n ∧ ¬ fGf p0 n = 0 ∧ uX = hX))) (hv_Bq G (hv_j hX (hv_out G oa v0)) sz) (hv_A (hv_j hX (hv_out G oa v0)) sz)) (XC := fun sz => hv_X G (hv_j hX (hv_out G oa v0)) sz (fun _ _ => False)) (by decide) rfl rfl (Nat.le_of_ble_eq_true rfl) ?_
  intro p e s m below meth c hr ht C I ls hl
  have hl : lv_has ls 4 [(0, .ref (ad 0 0)), (1, .int p0), (2, .ref oa)] := hl
  refine lv_aload_n C.1 C.2.1 dL_giveForm_0 rfl (lv_at hl 2 rfl) ?_
  refine lv_iconst (v := 0) C.1 C.2.1 dL_giveForm_1 (by decide) ?_
  refine lv_aload_n C.1 C.2.1 dL_giveForm_2 rfl (lv_at hl 0 rfl) ?_
  refine lv_iload_n C.1 C.2.1 dL_giveForm_3 rfl (lv_at hl 1 rfl) ?_
  refine hv_fxki I hdis (vx_runV (As := [.int p0]) (rest := [.int 0, .ref oa]) C.fix (c_X4_giveForm l hlt G hX _ hD p0 hn) (cwV 1 C.2.2.2.2.1 gL_giveForm_X4_giveForm rfl rfl rfl (by decide +kernel) ⟨Nat.le_of_ble_eq_true rfl, Nat.le_of_ble_eq_true rfl⟩) (hv_preV C I.left (isD_0 hD) (r := (RX4, TX4, 6)) rfl) rfl rfl hl.1 rfl (lv_room (Nat.le_of_ble_eq_true rfl)) dL_giveForm_4 ⟨Nat.le_of_ble_eq_true rfl, Nat.le_of_ble_eq_true rfl⟩) (fun E ce q9 u H locs hpx du I hq9 hv9 hcl9 => ?_) (fun r u H locs hp du I => ?_)
  · obtain ⟨e1, hE⟩ := hpx
    have e1 := e1.symm
    subst e1
    obtain ⟨eF, rfl⟩ := hE
    refine vx_catch (name := "java/lang/IndexOutOfBoundsException") C.2.2.2.1 [] ⟨0, 9, 12, 24⟩ [] (ht.trans rfl) (fun z hz => by cases hz) (by decide) (by decide) (C.ts (by decide +kernel)) (va_Nw.use rfl (C.nw (by decide +kernel))) hq9 hv9 hcl9 ?_
    refine lv_astore_n (lv' := [(3, .ref q9), (0, .ref (ad 0 0)), (1, .int p0), (2, .ref oa)]) C.1 C.2.1 dL_giveForm_12 rfl hl (by decide) rfl (fun ls hl => ?_)
    refine lv_iconst (v := 1) C.1 C.2.1 dL_giveForm_13 (by decide) ?_
    exact vx_ret (hv_iret (v := 1) C hr I ⟨hX, v0, rfl, du, Or.inr ⟨eF.symm, fun z => absurd (eF.symm.trans z) (by decide), rfl⟩⟩ dL_giveForm_14 (Nat.le_of_ble_eq_true rfl) (Nat.le_of_ble_eq_true rfl))
  · refine lv_i2l C.1 C.2.1 dL_giveForm_7 rfl ?_
    refine hv_last C I (hv_j_b du (hv_out_eq G oa v0)) (i := 0) (show vp_in (nI 0) 1 from vp_in_nI (by decide) (by decide)) dL_giveForm_8 (fun H locs I => ?_)
    have du2 : hv_dis u (hv_out G oa r.toInt64) := by rw [← hv_out_st G oa v0]; exact hv_dis_up du (hv_out_eq G oa v0)
    have I : hv_I G (hv_j hX (hv_out G oa v0)) s (hv_j u (hv_out G oa r.toInt64)) H locs := by rw [← hv_out_st G oa v0 r.toInt64, ← hv_j_up du (hv_out_eq G oa v0)]; exact I
    refine lv_goto (tgt := 15) C.1 C.2.1 dL_giveForm_9 (by decide) ?_
    refine lv_iconst (v := 0) C.1 C.2.1 dL_giveForm_15 (by decide) ?_
    exact vx_ret (hv_iret (v := 0) C hr I ⟨u, r.toInt64, rfl, du2, Or.inl ⟨rfl, r, rfl, hp⟩⟩ dL_giveForm_16 (Nat.le_of_ble_eq_true rfl) (Nat.le_of_ble_eq_true rfl))

set_option maxHeartbeats 4000000 in
set_option maxRecDepth 100000 in
theorem c_L_pass (l : Launch) (hlt : l.stackTraces = false) (G : hv_G) (hX : hv) (sz : Nat) {ad : Nat → Nat → Nat} {n d dl : Nat} {dy : Int32} {rf : Int64} {ar : Nat → Nat → Int32} {fm : Nat → Int32} {po : Nat → List (Int32 × Int32 × Int32)} (hD : isD G hX ad n d dl dy rf ar fm po) (p0 : Int32) (hn : n ≤ 20) (oa : Nat) (v0 : Int64) (hdis : hv_dis hX (hv_out G oa v0)) : hv_Xi l yL_pass wsL_pass 8 350 2 12 G (hv_j hX (hv_out G oa v0)) sz [.ref (ad 0 0), .int p0, .ref oa] (fun r u => ∃ (uX : hv) (v : Int64), u = hv_j uX (hv_out G oa v) ∧ hv_dis uX (hv_out G oa v) ∧ ((r = 0 ∧ ∃ r0 : Int32, v = r0.toInt64 ∧ (fun r u => fPs p0 dy = 0 ∧ r = dy + p0 ∧ isD G u ad n d dl (dy + p0) rf (va_up ar 8 (psS (ar 6) (ar 8) dy n)) fm po) r0 uX) ∨ (r = fPs p0 dy ∧ ¬ fPs p0 dy = 0 ∧ uX = hX))) (fun _ _ => False) := by
  refine hv_enterH (y := yL_pass) (avs := [.ref (ad 0 0), .int p0, .ref oa]) (maxL := 4) (hh := [(0, 9, 12, 13), (0, 9, 15, 19)]) (Qf := fun sz => va_Qi (fun r u => ∃ (uX : hv) (v : Int64), u = hv_j uX (hv_out G oa v) ∧ hv_dis uX (hv_out G oa v) ∧ ((r = 0 ∧ ∃ r0 : Int32, v = r0.toInt64 ∧ (fun r u => fPs p0 dy = 0 ∧ r = dy + p0 ∧ isD G u ad n d dl (dy + p0) rf (va_up ar 8 (psS (ar 6) (ar 8) dy n)) fm po) r0 uX) ∨ (r = fPs p0 dy ∧ ¬ fPs p0 dy = 0 ∧ uX = hX))) (hv_Bq G (hv_j hX (hv_out G oa v0)) sz) (hv_A (hv_j hX (hv_out G oa v0)) sz)) (XC := fun sz => hv_X G (hv_j hX (hv_out G oa v0)) sz (fun _ _ => False)) (by decide) rfl rfl (Nat.le_of_ble_eq_true rfl) ?_
  intro p e s m below meth c hr ht C I ls hl
  have hl : lv_has ls 4 [(0, .ref (ad 0 0)), (1, .int p0), (2, .ref oa)] := hl
  refine lv_aload_n C.1 C.2.1 dL_pass_0 rfl (lv_at hl 2 rfl) ?_
  refine lv_iconst (v := 0) C.1 C.2.1 dL_pass_1 (by decide) ?_
  refine lv_aload_n C.1 C.2.1 dL_pass_2 rfl (lv_at hl 0 rfl) ?_
  refine lv_iload_n C.1 C.2.1 dL_pass_3 rfl (lv_at hl 1 rfl) ?_
  refine hv_fxki I hdis (vx_runV (As := [.int p0]) (rest := [.int 0, .ref oa]) C.fix (c_X4_pass l hlt G hX _ hD p0 hn) (cwV 1 C.2.2.2.2.1 gL_pass_X4_pass rfl rfl rfl (by decide +kernel) ⟨Nat.le_of_ble_eq_true rfl, Nat.le_of_ble_eq_true rfl⟩) (hv_preV C I.left (isD_0 hD) (r := (RX4, TX4, 6)) rfl) rfl rfl hl.1 rfl (lv_room (Nat.le_of_ble_eq_true rfl)) dL_pass_4 ⟨Nat.le_of_ble_eq_true rfl, Nat.le_of_ble_eq_true rfl⟩) (fun E ce q9 u H locs hpx du I hq9 hv9 hcl9 => ?_) (fun r u H locs hp du I => ?_)
  · obtain ⟨e1, hE⟩ := hpx
    have e1 := e1.symm
    subst e1
    rcases hE with ⟨eF, rfl⟩ | ⟨eF, rfl⟩
    · refine vx_catch (name := "java/lang/IllegalArgumentException") C.2.2.2.1 [] ⟨0, 9, 12, 13⟩ [⟨0, 9, 15, 19⟩] (ht.trans rfl) (fun z hz => by cases hz) (by decide) (by decide) (C.ts (by decide +kernel)) (va_Nw.use rfl (C.nw (by decide +kernel))) hq9 hv9 hcl9 ?_
      refine lv_astore_n (lv' := [(3, .ref q9), (0, .ref (ad 0 0)), (1, .int p0), (2, .ref oa)]) C.1 C.2.1 dL_pass_12 rfl hl (by decide) rfl (fun ls hl => ?_)
      refine lv_iconst (v := 1) C.1 C.2.1 dL_pass_13 (by decide) ?_
      exact vx_ret (hv_iret (v := 1) C hr I ⟨hX, v0, rfl, du, Or.inr ⟨eF.symm, fun z => absurd (eF.symm.trans z) (by decide), rfl⟩⟩ dL_pass_14 (Nat.le_of_ble_eq_true rfl) (Nat.le_of_ble_eq_true rfl))
    · refine vx_catch (name := "java/lang/IllegalStateException") C.2.2.2.1 [⟨0, 9, 12, 13⟩] ⟨0, 9, 15, 19⟩ [] (ht.trans rfl) (hv_p1 (Or.inr ⟨by decide, "java/lang/IllegalArgumentException", C.ts (by decide +kernel), C.E.2.2.2.2.2.2.2 ("java/lang/IllegalStateException", "java/lang/IllegalArgumentException") (by decide)⟩)) (by decide) (by decide) (C.ts (by decide +kernel)) (va_Nw.use rfl (C.nw (by decide +kernel))) hq9 hv9 hcl9 ?_
      refine lv_astore_n (lv' := [(3, .ref q9), (0, .ref (ad 0 0)), (1, .int p0), (2, .ref oa)]) C.1 C.2.1 dL_pass_15 rfl hl (by decide) rfl (fun ls hl => ?_)
      refine lv_iconst (v := 2) C.1 C.2.1 dL_pass_16 (by decide) ?_
      exact vx_ret (hv_iret (v := 2) C hr I ⟨hX, v0, rfl, du, Or.inr ⟨eF.symm, fun z => absurd (eF.symm.trans z) (by decide), rfl⟩⟩ dL_pass_17 (Nat.le_of_ble_eq_true rfl) (Nat.le_of_ble_eq_true rfl))
  · refine lv_i2l C.1 C.2.1 dL_pass_7 rfl ?_
    refine hv_last C I (hv_j_b du (hv_out_eq G oa v0)) (i := 0) (show vp_in (nI 0) 1 from vp_in_nI (by decide) (by decide)) dL_pass_8 (fun H locs I => ?_)
    have du2 : hv_dis u (hv_out G oa r.toInt64) := by rw [← hv_out_st G oa v0]; exact hv_dis_up du (hv_out_eq G oa v0)
    have I : hv_I G (hv_j hX (hv_out G oa v0)) s (hv_j u (hv_out G oa r.toInt64)) H locs := by rw [← hv_out_st G oa v0 r.toInt64, ← hv_j_up du (hv_out_eq G oa v0)]; exact I
    refine lv_goto (tgt := 18) C.1 C.2.1 dL_pass_9 (by decide) ?_
    refine lv_iconst (v := 0) C.1 C.2.1 dL_pass_18 (by decide) ?_
    exact vx_ret (hv_iret (v := 0) C hr I ⟨u, r.toInt64, rfl, du2, Or.inl ⟨rfl, r, rfl, hp⟩⟩ dL_pass_19 (Nat.le_of_ble_eq_true rfl) (Nat.le_of_ble_eq_true rfl))

set_option maxHeartbeats 4000000 in
set_option maxRecDepth 100000 in
theorem c_L_shares (l : Launch) (hlt : l.stackTraces = false) (G : hv_G) (hX : hv) (sz : Nat) {ad : Nat → Nat → Nat} {n d dl : Nat} {dy : Int32} {rf : Int64} {ar : Nat → Nat → Int32} {fm : Nat → Int32} {po : Nat → List (Int32 × Int32 × Int32)} (hD : isD G hX ad n d dl dy rf ar fm po) (p0 : Int32) (hn : n ≤ 20) (oa : Nat) (v0 : Int64) (hdis : hv_dis hX (hv_out G oa v0)) : hv_Xi l yL_shares wsL_shares 9 350 2 12 G (hv_j hX (hv_out G oa v0)) sz [.ref (ad 0 0), .int p0, .ref oa] (fun r u => ∃ (uX : hv) (v : Int64), u = hv_j uX (hv_out G oa v) ∧ hv_dis uX (hv_out G oa v) ∧ ((r = 0 ∧ ∃ r0 : Int32, v = r0.toInt64 ∧ (fun r u => fAk p0 n = 0 ∧ u = hX ∧ r = ar 6 p0.toNatClampNeg) r0 uX) ∨ (r = fAk p0 n ∧ ¬ fAk p0 n = 0 ∧ uX = hX))) (fun _ _ => False) := by
  refine hv_enterH (y := yL_shares) (avs := [.ref (ad 0 0), .int p0, .ref oa]) (maxL := 4) (hh := [(0, 9, 12, 24)]) (Qf := fun sz => va_Qi (fun r u => ∃ (uX : hv) (v : Int64), u = hv_j uX (hv_out G oa v) ∧ hv_dis uX (hv_out G oa v) ∧ ((r = 0 ∧ ∃ r0 : Int32, v = r0.toInt64 ∧ (fun r u => fAk p0 n = 0 ∧ u = hX ∧ r = ar 6 p0.toNatClampNeg) r0 uX) ∨ (r = fAk p0 n ∧ ¬ fAk p0 n = 0 ∧ uX = hX))) (hv_Bq G (hv_j hX (hv_out G oa v0)) sz) (hv_A (hv_j hX (hv_out G oa v0)) sz)) (XC := fun sz => hv_X G (hv_j hX (hv_out G oa v0)) sz (fun _ _ => False)) (by decide) rfl rfl (Nat.le_of_ble_eq_true rfl) ?_
  intro p e s m below meth c hr ht C I ls hl
  have hl : lv_has ls 4 [(0, .ref (ad 0 0)), (1, .int p0), (2, .ref oa)] := hl
  refine lv_aload_n C.1 C.2.1 dL_shares_0 rfl (lv_at hl 2 rfl) ?_
  refine lv_iconst (v := 0) C.1 C.2.1 dL_shares_1 (by decide) ?_
  refine lv_aload_n C.1 C.2.1 dL_shares_2 rfl (lv_at hl 0 rfl) ?_
  refine lv_iload_n C.1 C.2.1 dL_shares_3 rfl (lv_at hl 1 rfl) ?_
  refine hv_fxki I hdis (vx_runV (As := [.int p0]) (rest := [.int 0, .ref oa]) C.fix (c_X4_shares l hlt G hX _ hD p0 hn) (cwV 1 C.2.2.2.2.1 gL_shares_X4_shares rfl rfl rfl (by decide +kernel) ⟨Nat.le_of_ble_eq_true rfl, Nat.le_of_ble_eq_true rfl⟩) (hv_preV C I.left (isD_0 hD) (r := (RX4, TX4, 6)) rfl) rfl rfl hl.1 rfl (lv_room (Nat.le_of_ble_eq_true rfl)) dL_shares_4 ⟨Nat.le_of_ble_eq_true rfl, Nat.le_of_ble_eq_true rfl⟩) (fun E ce q9 u H locs hpx du I hq9 hv9 hcl9 => ?_) (fun r u H locs hp du I => ?_)
  · obtain ⟨e1, hE⟩ := hpx
    have e1 := e1.symm
    subst e1
    obtain ⟨eF, rfl⟩ := hE
    refine vx_catch (name := "java/lang/IndexOutOfBoundsException") C.2.2.2.1 [] ⟨0, 9, 12, 24⟩ [] (ht.trans rfl) (fun z hz => by cases hz) (by decide) (by decide) (C.ts (by decide +kernel)) (va_Nw.use rfl (C.nw (by decide +kernel))) hq9 hv9 hcl9 ?_
    refine lv_astore_n (lv' := [(3, .ref q9), (0, .ref (ad 0 0)), (1, .int p0), (2, .ref oa)]) C.1 C.2.1 dL_shares_12 rfl hl (by decide) rfl (fun ls hl => ?_)
    refine lv_iconst (v := 1) C.1 C.2.1 dL_shares_13 (by decide) ?_
    exact vx_ret (hv_iret (v := 1) C hr I ⟨hX, v0, rfl, du, Or.inr ⟨eF.symm, fun z => absurd (eF.symm.trans z) (by decide), rfl⟩⟩ dL_shares_14 (Nat.le_of_ble_eq_true rfl) (Nat.le_of_ble_eq_true rfl))
  · refine lv_i2l C.1 C.2.1 dL_shares_7 rfl ?_
    refine hv_last C I (hv_j_b du (hv_out_eq G oa v0)) (i := 0) (show vp_in (nI 0) 1 from vp_in_nI (by decide) (by decide)) dL_shares_8 (fun H locs I => ?_)
    have du2 : hv_dis u (hv_out G oa r.toInt64) := by rw [← hv_out_st G oa v0]; exact hv_dis_up du (hv_out_eq G oa v0)
    have I : hv_I G (hv_j hX (hv_out G oa v0)) s (hv_j u (hv_out G oa r.toInt64)) H locs := by rw [← hv_out_st G oa v0 r.toInt64, ← hv_j_up du (hv_out_eq G oa v0)]; exact I
    refine lv_goto (tgt := 15) C.1 C.2.1 dL_shares_9 (by decide) ?_
    refine lv_iconst (v := 0) C.1 C.2.1 dL_shares_15 (by decide) ?_
    exact vx_ret (hv_iret (v := 0) C hr I ⟨u, r.toInt64, rfl, du2, Or.inl ⟨rfl, r, rfl, hp⟩⟩ dL_shares_16 (Nat.le_of_ble_eq_true rfl) (Nat.le_of_ble_eq_true rfl))

set_option maxHeartbeats 4000000 in
set_option maxRecDepth 100000 in
theorem c_L_isValid (l : Launch) (hlt : l.stackTraces = false) (G : hv_G) (hX : hv) (sz : Nat) {ad : Nat → Nat → Nat} {n d dl : Nat} {dy : Int32} {rf : Int64} {ar : Nat → Nat → Int32} {fm : Nat → Int32} {po : Nat → List (Int32 × Int32 × Int32)} (hD : isD G hX ad n d dl dy rf ar fm po) (p0 : Int32) (hn : n ≤ 20) (oa : Nat) (v0 : Int64) (hdis : hv_dis hX (hv_out G oa v0)) : hv_Xi l yL_isValid wsL_isValid 9 350 2 12 G (hv_j hX (hv_out G oa v0)) sz [.ref (ad 0 0), .int p0, .ref oa] (fun r u => ∃ (uX : hv) (v : Int64), u = hv_j uX (hv_out G oa v) ∧ hv_dis uX (hv_out G oa v) ∧ ((r = 0 ∧ ∃ r0 : Int32, v = (if r0 = 0 then 0 else 1) ∧ (fun r u => fAk p0 n = 0 ∧ u = hX ∧ r = hf dy (ar 7 p0.toNatClampNeg)) r0 uX) ∨ (r = fAk p0 n ∧ ¬ fAk p0 n = 0 ∧ uX = hX))) (fun _ _ => False) := by
  refine hv_enterH (y := yL_isValid) (avs := [.ref (ad 0 0), .int p0, .ref oa]) (maxL := 4) (hh := [(0, 16, 19, 24)]) (Qf := fun sz => va_Qi (fun r u => ∃ (uX : hv) (v : Int64), u = hv_j uX (hv_out G oa v) ∧ hv_dis uX (hv_out G oa v) ∧ ((r = 0 ∧ ∃ r0 : Int32, v = (if r0 = 0 then 0 else 1) ∧ (fun r u => fAk p0 n = 0 ∧ u = hX ∧ r = hf dy (ar 7 p0.toNatClampNeg)) r0 uX) ∨ (r = fAk p0 n ∧ ¬ fAk p0 n = 0 ∧ uX = hX))) (hv_Bq G (hv_j hX (hv_out G oa v0)) sz) (hv_A (hv_j hX (hv_out G oa v0)) sz)) (XC := fun sz => hv_X G (hv_j hX (hv_out G oa v0)) sz (fun _ _ => False)) (by decide) rfl rfl (Nat.le_of_ble_eq_true rfl) ?_
  intro p e s m below meth c hr ht C I ls hl
  have hl : lv_has ls 4 [(0, .ref (ad 0 0)), (1, .int p0), (2, .ref oa)] := hl
  refine lv_aload_n C.1 C.2.1 dL_isValid_0 rfl (lv_at hl 2 rfl) ?_
  refine lv_iconst (v := 0) C.1 C.2.1 dL_isValid_1 (by decide) ?_
  refine lv_aload_n C.1 C.2.1 dL_isValid_2 rfl (lv_at hl 0 rfl) ?_
  refine lv_iload_n C.1 C.2.1 dL_isValid_3 rfl (lv_at hl 1 rfl) ?_
  refine hv_fxki I hdis (vx_runV (As := [.int p0]) (rest := [.int 0, .ref oa]) C.fix (c_X4_isValid l hlt G hX _ hD p0 hn) (cwV 1 C.2.2.2.2.1 gL_isValid_X4_isValid rfl rfl rfl (by decide +kernel) ⟨Nat.le_of_ble_eq_true rfl, Nat.le_of_ble_eq_true rfl⟩) (hv_preV C I.left (isD_0 hD) (r := (RX4, TX4, 6)) rfl) rfl rfl hl.1 rfl (lv_room (Nat.le_of_ble_eq_true rfl)) dL_isValid_4 ⟨Nat.le_of_ble_eq_true rfl, Nat.le_of_ble_eq_true rfl⟩) (fun E ce q9 u H locs hpx du I hq9 hv9 hcl9 => ?_) (fun r u H locs hp du I => ?_)
  · obtain ⟨e1, hE⟩ := hpx
    have e1 := e1.symm
    subst e1
    obtain ⟨eF, rfl⟩ := hE
    refine vx_catch (name := "java/lang/IndexOutOfBoundsException") C.2.2.2.1 [] ⟨0, 16, 19, 24⟩ [] (ht.trans rfl) (fun z hz => by cases hz) (by decide) (by decide) (C.ts (by decide +kernel)) (va_Nw.use rfl (C.nw (by decide +kernel))) hq9 hv9 hcl9 ?_
    refine lv_astore_n (lv' := [(3, .ref q9), (0, .ref (ad 0 0)), (1, .int p0), (2, .ref oa)]) C.1 C.2.1 dL_isValid_19 rfl hl (by decide) rfl (fun ls hl => ?_)
    refine lv_iconst (v := 1) C.1 C.2.1 dL_isValid_20 (by decide) ?_
    exact vx_ret (hv_iret (v := 1) C hr I ⟨hX, v0, rfl, du, Or.inr ⟨eF.symm, fun z => absurd (eF.symm.trans z) (by decide), rfl⟩⟩ dL_isValid_21 (Nat.le_of_ble_eq_true rfl) (Nat.le_of_ble_eq_true rfl))
  · refine lv_if_eq (tgt := 14) C.1 C.2.1 dL_isValid_7 (by decide) (fun c9 => ?_) (fun c9 => ?_)
    · refine lv_lconst (v := 0) C.1 C.2.1 dL_isValid_14 (by decide) ?_
      refine hv_last C I (hv_j_b du (hv_out_eq G oa v0)) (i := 0) (show vp_in (nI 0) 1 from vp_in_nI (by decide) (by decide)) dL_isValid_15 (fun H locs I => ?_)
      have du2 : hv_dis u (hv_out G oa 0) := by rw [← hv_out_st G oa v0]; exact hv_dis_up du (hv_out_eq G oa v0)
      have I : hv_I G (hv_j hX (hv_out G oa v0)) s (hv_j u (hv_out G oa 0)) H locs := by rw [← hv_out_st G oa v0 0, ← hv_j_up du (hv_out_eq G oa v0)]; exact I
      refine lv_goto (tgt := 22) C.1 C.2.1 dL_isValid_16 (by decide) ?_
      refine lv_iconst (v := 0) C.1 C.2.1 dL_isValid_22 (by decide) ?_
      exact vx_ret (hv_iret (v := 0) C hr I ⟨u, 0, rfl, du2, Or.inl ⟨rfl, r, (if_pos c9).symm, hp⟩⟩ dL_isValid_23 (Nat.le_of_ble_eq_true rfl) (Nat.le_of_ble_eq_true rfl))
    · refine lv_lconst (v := 1) C.1 C.2.1 dL_isValid_10 (by decide) ?_
      refine lv_goto (tgt := 15) C.1 C.2.1 dL_isValid_11 (by decide) ?_
      refine hv_last C I (hv_j_b du (hv_out_eq G oa v0)) (i := 0) (show vp_in (nI 0) 1 from vp_in_nI (by decide) (by decide)) dL_isValid_15 (fun H locs I => ?_)
      have du2 : hv_dis u (hv_out G oa 1) := by rw [← hv_out_st G oa v0]; exact hv_dis_up du (hv_out_eq G oa v0)
      have I : hv_I G (hv_j hX (hv_out G oa v0)) s (hv_j u (hv_out G oa 1)) H locs := by rw [← hv_out_st G oa v0 1, ← hv_j_up du (hv_out_eq G oa v0)]; exact I
      refine lv_goto (tgt := 22) C.1 C.2.1 dL_isValid_16 (by decide) ?_
      refine lv_iconst (v := 0) C.1 C.2.1 dL_isValid_22 (by decide) ?_
      exact vx_ret (hv_iret (v := 0) C hr I ⟨u, 1, rfl, du2, Or.inl ⟨rfl, r, (if_neg c9).symm, hp⟩⟩ dL_isValid_23 (Nat.le_of_ble_eq_true rfl) (Nat.le_of_ble_eq_true rfl))

set_option maxHeartbeats 4000000 in
set_option maxRecDepth 100000 in
theorem c_L_isLarge (l : Launch) (hlt : l.stackTraces = false) (G : hv_G) (hX : hv) (sz : Nat) {ad : Nat → Nat → Nat} {n d dl : Nat} {dy : Int32} {rf : Int64} {ar : Nat → Nat → Int32} {fm : Nat → Int32} {po : Nat → List (Int32 × Int32 × Int32)} (hD : isD G hX ad n d dl dy rf ar fm po) (p0 : Int32) (hn : n ≤ 20) (oa : Nat) (v0 : Int64) (hdis : hv_dis hX (hv_out G oa v0)) : hv_Xi l yL_isLarge wsL_isLarge 9 350 2 12 G (hv_j hX (hv_out G oa v0)) sz [.ref (ad 0 0), .int p0, .ref oa] (fun r u => ∃ (uX : hv) (v : Int64), u = hv_j uX (hv_out G oa v) ∧ hv_dis uX (hv_out G oa v) ∧ ((r = 0 ∧ ∃ r0 : Int32, v = (if r0 = 0 then 0 else 1) ∧ (fun r u => fAk p0 n = 0 ∧ u = hX ∧ r = hlg (ar 4 p0.toNatClampNeg) (ar 6 p0.toNatClampNeg) (ar 8 p0.toNatClampNeg) dy) r0 uX) ∨ (r = fAk p0 n ∧ ¬ fAk p0 n = 0 ∧ uX = hX))) (fun _ _ => False) := by
  refine hv_enterH (y := yL_isLarge) (avs := [.ref (ad 0 0), .int p0, .ref oa]) (maxL := 4) (hh := [(0, 16, 19, 24)]) (Qf := fun sz => va_Qi (fun r u => ∃ (uX : hv) (v : Int64), u = hv_j uX (hv_out G oa v) ∧ hv_dis uX (hv_out G oa v) ∧ ((r = 0 ∧ ∃ r0 : Int32, v = (if r0 = 0 then 0 else 1) ∧ (fun r u => fAk p0 n = 0 ∧ u = hX ∧ r = hlg (ar 4 p0.toNatClampNeg) (ar 6 p0.toNatClampNeg) (ar 8 p0.toNatClampNeg) dy) r0 uX) ∨ (r = fAk p0 n ∧ ¬ fAk p0 n = 0 ∧ uX = hX))) (hv_Bq G (hv_j hX (hv_out G oa v0)) sz) (hv_A (hv_j hX (hv_out G oa v0)) sz)) (XC := fun sz => hv_X G (hv_j hX (hv_out G oa v0)) sz (fun _ _ => False)) (by decide) rfl rfl (Nat.le_of_ble_eq_true rfl) ?_
  intro p e s m below meth c hr ht C I ls hl
  have hl : lv_has ls 4 [(0, .ref (ad 0 0)), (1, .int p0), (2, .ref oa)] := hl
  refine lv_aload_n C.1 C.2.1 dL_isLarge_0 rfl (lv_at hl 2 rfl) ?_
  refine lv_iconst (v := 0) C.1 C.2.1 dL_isLarge_1 (by decide) ?_
  refine lv_aload_n C.1 C.2.1 dL_isLarge_2 rfl (lv_at hl 0 rfl) ?_
  refine lv_iload_n C.1 C.2.1 dL_isLarge_3 rfl (lv_at hl 1 rfl) ?_
  refine hv_fxki I hdis (vx_runV (As := [.int p0]) (rest := [.int 0, .ref oa]) C.fix (c_X4_isLarge l hlt G hX _ hD p0 hn) (cwV 1 C.2.2.2.2.1 gL_isLarge_X4_isLarge rfl rfl rfl (by decide +kernel) ⟨Nat.le_of_ble_eq_true rfl, Nat.le_of_ble_eq_true rfl⟩) (hv_preV C I.left (isD_0 hD) (r := (RX4, TX4, 6)) rfl) rfl rfl hl.1 rfl (lv_room (Nat.le_of_ble_eq_true rfl)) dL_isLarge_4 ⟨Nat.le_of_ble_eq_true rfl, Nat.le_of_ble_eq_true rfl⟩) (fun E ce q9 u H locs hpx du I hq9 hv9 hcl9 => ?_) (fun r u H locs hp du I => ?_)
  · obtain ⟨e1, hE⟩ := hpx
    have e1 := e1.symm
    subst e1
    obtain ⟨eF, rfl⟩ := hE
    refine vx_catch (name := "java/lang/IndexOutOfBoundsException") C.2.2.2.1 [] ⟨0, 16, 19, 24⟩ [] (ht.trans rfl) (fun z hz => by cases hz) (by decide) (by decide) (C.ts (by decide +kernel)) (va_Nw.use rfl (C.nw (by decide +kernel))) hq9 hv9 hcl9 ?_
    refine lv_astore_n (lv' := [(3, .ref q9), (0, .ref (ad 0 0)), (1, .int p0), (2, .ref oa)]) C.1 C.2.1 dL_isLarge_19 rfl hl (by decide) rfl (fun ls hl => ?_)
    refine lv_iconst (v := 1) C.1 C.2.1 dL_isLarge_20 (by decide) ?_
    exact vx_ret (hv_iret (v := 1) C hr I ⟨hX, v0, rfl, du, Or.inr ⟨eF.symm, fun z => absurd (eF.symm.trans z) (by decide), rfl⟩⟩ dL_isLarge_21 (Nat.le_of_ble_eq_true rfl) (Nat.le_of_ble_eq_true rfl))
  · refine lv_if_eq (tgt := 14) C.1 C.2.1 dL_isLarge_7 (by decide) (fun c9 => ?_) (fun c9 => ?_)
    · refine lv_lconst (v := 0) C.1 C.2.1 dL_isLarge_14 (by decide) ?_
      refine hv_last C I (hv_j_b du (hv_out_eq G oa v0)) (i := 0) (show vp_in (nI 0) 1 from vp_in_nI (by decide) (by decide)) dL_isLarge_15 (fun H locs I => ?_)
      have du2 : hv_dis u (hv_out G oa 0) := by rw [← hv_out_st G oa v0]; exact hv_dis_up du (hv_out_eq G oa v0)
      have I : hv_I G (hv_j hX (hv_out G oa v0)) s (hv_j u (hv_out G oa 0)) H locs := by rw [← hv_out_st G oa v0 0, ← hv_j_up du (hv_out_eq G oa v0)]; exact I
      refine lv_goto (tgt := 22) C.1 C.2.1 dL_isLarge_16 (by decide) ?_
      refine lv_iconst (v := 0) C.1 C.2.1 dL_isLarge_22 (by decide) ?_
      exact vx_ret (hv_iret (v := 0) C hr I ⟨u, 0, rfl, du2, Or.inl ⟨rfl, r, (if_pos c9).symm, hp⟩⟩ dL_isLarge_23 (Nat.le_of_ble_eq_true rfl) (Nat.le_of_ble_eq_true rfl))
    · refine lv_lconst (v := 1) C.1 C.2.1 dL_isLarge_10 (by decide) ?_
      refine lv_goto (tgt := 15) C.1 C.2.1 dL_isLarge_11 (by decide) ?_
      refine hv_last C I (hv_j_b du (hv_out_eq G oa v0)) (i := 0) (show vp_in (nI 0) 1 from vp_in_nI (by decide) (by decide)) dL_isLarge_15 (fun H locs I => ?_)
      have du2 : hv_dis u (hv_out G oa 1) := by rw [← hv_out_st G oa v0]; exact hv_dis_up du (hv_out_eq G oa v0)
      have I : hv_I G (hv_j hX (hv_out G oa v0)) s (hv_j u (hv_out G oa 1)) H locs := by rw [← hv_out_st G oa v0 1, ← hv_j_up du (hv_out_eq G oa v0)]; exact I
      refine lv_goto (tgt := 22) C.1 C.2.1 dL_isLarge_16 (by decide) ?_
      refine lv_iconst (v := 0) C.1 C.2.1 dL_isLarge_22 (by decide) ?_
      exact vx_ret (hv_iret (v := 0) C hr I ⟨u, 1, rfl, du2, Or.inl ⟨rfl, r, (if_neg c9).symm, hp⟩⟩ dL_isLarge_23 (Nat.le_of_ble_eq_true rfl) (Nat.le_of_ble_eq_true rfl))

set_option maxHeartbeats 4000000 in
set_option maxRecDepth 100000 in
theorem c_L_treatyRate (l : Launch) (hlt : l.stackTraces = false) (G : hv_G) (hX : hv) (sz : Nat) {ad : Nat → Nat → Nat} {n d dl : Nat} {dy : Int32} {rf : Int64} {ar : Nat → Nat → Int32} {fm : Nat → Int32} {po : Nat → List (Int32 × Int32 × Int32)} (hD : isD G hX ad n d dl dy rf ar fm po) (p0 : Int32) (hn : n ≤ 20) (oa : Nat) (v0 : Int64) (hdis : hv_dis hX (hv_out G oa v0)) : hv_Xi l yL_treatyRate wsL_treatyRate 9 350 2 12 G (hv_j hX (hv_out G oa v0)) sz [.ref (ad 0 0), .int p0, .ref oa] (fun r u => ∃ (uX : hv) (v : Int64), u = hv_j uX (hv_out G oa v) ∧ hv_dis uX (hv_out G oa v) ∧ ((r = 0 ∧ ∃ r0 : Int32, v = r0.toInt64 ∧ (fun r u => fRt p0 n (ar 4) = 0 ∧ u = hX ∧ r = ownF (rD (ar 1) (ar 5 p0.toNatClampNeg)) (rD (ar 2) (ar 5 p0.toNatClampNeg)) (hlg (ar 4 p0.toNatClampNeg) (ar 6 p0.toNatClampNeg) (ar 8 p0.toNatClampNeg) dy)) r0 uX) ∨ (r = fRt p0 n (ar 4) ∧ ¬ fRt p0 n (ar 4) = 0 ∧ uX = hX))) (fun _ _ => False) := by
  refine hv_enterH (y := yL_treatyRate) (avs := [.ref (ad 0 0), .int p0, .ref oa]) (maxL := 4) (hh := [(0, 9, 12, 24), (0, 9, 15, 13)]) (Qf := fun sz => va_Qi (fun r u => ∃ (uX : hv) (v : Int64), u = hv_j uX (hv_out G oa v) ∧ hv_dis uX (hv_out G oa v) ∧ ((r = 0 ∧ ∃ r0 : Int32, v = r0.toInt64 ∧ (fun r u => fRt p0 n (ar 4) = 0 ∧ u = hX ∧ r = ownF (rD (ar 1) (ar 5 p0.toNatClampNeg)) (rD (ar 2) (ar 5 p0.toNatClampNeg)) (hlg (ar 4 p0.toNatClampNeg) (ar 6 p0.toNatClampNeg) (ar 8 p0.toNatClampNeg) dy)) r0 uX) ∨ (r = fRt p0 n (ar 4) ∧ ¬ fRt p0 n (ar 4) = 0 ∧ uX = hX))) (hv_Bq G (hv_j hX (hv_out G oa v0)) sz) (hv_A (hv_j hX (hv_out G oa v0)) sz)) (XC := fun sz => hv_X G (hv_j hX (hv_out G oa v0)) sz (fun _ _ => False)) (by decide) rfl rfl (Nat.le_of_ble_eq_true rfl) ?_
  intro p e s m below meth c hr ht C I ls hl
  have hl : lv_has ls 4 [(0, .ref (ad 0 0)), (1, .int p0), (2, .ref oa)] := hl
  refine lv_aload_n C.1 C.2.1 dL_treatyRate_0 rfl (lv_at hl 2 rfl) ?_
  refine lv_iconst (v := 0) C.1 C.2.1 dL_treatyRate_1 (by decide) ?_
  refine lv_aload_n C.1 C.2.1 dL_treatyRate_2 rfl (lv_at hl 0 rfl) ?_
  refine lv_iload_n C.1 C.2.1 dL_treatyRate_3 rfl (lv_at hl 1 rfl) ?_
  refine hv_fxki I hdis (vx_runV (As := [.int p0]) (rest := [.int 0, .ref oa]) C.fix (c_X4_treatyRate l hlt G hX _ hD p0 hn) (cwV 1 C.2.2.2.2.1 gL_treatyRate_X4_treatyRate rfl rfl rfl (by decide +kernel) ⟨Nat.le_of_ble_eq_true rfl, Nat.le_of_ble_eq_true rfl⟩) (hv_preV C I.left (isD_0 hD) (r := (RX4, TX4, 6)) rfl) rfl rfl hl.1 rfl (lv_room (Nat.le_of_ble_eq_true rfl)) dL_treatyRate_4 ⟨Nat.le_of_ble_eq_true rfl, Nat.le_of_ble_eq_true rfl⟩) (fun E ce q9 u H locs hpx du I hq9 hv9 hcl9 => ?_) (fun r u H locs hp du I => ?_)
  · obtain ⟨e1, hE⟩ := hpx
    have e1 := e1.symm
    subst e1
    rcases hE with ⟨eF, rfl⟩ | ⟨eF, rfl⟩
    · refine vx_catch (name := "java/lang/IndexOutOfBoundsException") C.2.2.2.1 [] ⟨0, 9, 12, 24⟩ [⟨0, 9, 15, 13⟩] (ht.trans rfl) (fun z hz => by cases hz) (by decide) (by decide) (C.ts (by decide +kernel)) (va_Nw.use rfl (C.nw (by decide +kernel))) hq9 hv9 hcl9 ?_
      refine lv_astore_n (lv' := [(3, .ref q9), (0, .ref (ad 0 0)), (1, .int p0), (2, .ref oa)]) C.1 C.2.1 dL_treatyRate_12 rfl hl (by decide) rfl (fun ls hl => ?_)
      refine lv_iconst (v := 1) C.1 C.2.1 dL_treatyRate_13 (by decide) ?_
      exact vx_ret (hv_iret (v := 1) C hr I ⟨hX, v0, rfl, du, Or.inr ⟨eF.symm, fun z => absurd (eF.symm.trans z) (by decide), rfl⟩⟩ dL_treatyRate_14 (Nat.le_of_ble_eq_true rfl) (Nat.le_of_ble_eq_true rfl))
    · refine vx_catch (name := "java/lang/IllegalArgumentException") C.2.2.2.1 [⟨0, 9, 12, 24⟩] ⟨0, 9, 15, 13⟩ [] (ht.trans rfl) (hv_p1 (Or.inr ⟨by decide, "java/lang/IndexOutOfBoundsException", C.ts (by decide +kernel), C.E.2.2.2.2.2.2.2 ("java/lang/IllegalArgumentException", "java/lang/IndexOutOfBoundsException") (by decide)⟩)) (by decide) (by decide) (C.ts (by decide +kernel)) (va_Nw.use rfl (C.nw (by decide +kernel))) hq9 hv9 hcl9 ?_
      refine lv_astore_n (lv' := [(3, .ref q9), (0, .ref (ad 0 0)), (1, .int p0), (2, .ref oa)]) C.1 C.2.1 dL_treatyRate_15 rfl hl (by decide) rfl (fun ls hl => ?_)
      refine lv_iconst (v := 2) C.1 C.2.1 dL_treatyRate_16 (by decide) ?_
      exact vx_ret (hv_iret (v := 2) C hr I ⟨hX, v0, rfl, du, Or.inr ⟨eF.symm, fun z => absurd (eF.symm.trans z) (by decide), rfl⟩⟩ dL_treatyRate_17 (Nat.le_of_ble_eq_true rfl) (Nat.le_of_ble_eq_true rfl))
  · refine lv_i2l C.1 C.2.1 dL_treatyRate_7 rfl ?_
    refine hv_last C I (hv_j_b du (hv_out_eq G oa v0)) (i := 0) (show vp_in (nI 0) 1 from vp_in_nI (by decide) (by decide)) dL_treatyRate_8 (fun H locs I => ?_)
    have du2 : hv_dis u (hv_out G oa r.toInt64) := by rw [← hv_out_st G oa v0]; exact hv_dis_up du (hv_out_eq G oa v0)
    have I : hv_I G (hv_j hX (hv_out G oa v0)) s (hv_j u (hv_out G oa r.toInt64)) H locs := by rw [← hv_out_st G oa v0 r.toInt64, ← hv_j_up du (hv_out_eq G oa v0)]; exact I
    refine lv_goto (tgt := 18) C.1 C.2.1 dL_treatyRate_9 (by decide) ?_
    refine lv_iconst (v := 0) C.1 C.2.1 dL_treatyRate_18 (by decide) ?_
    exact vx_ret (hv_iret (v := 0) C hr I ⟨u, r.toInt64, rfl, du2, Or.inl ⟨rfl, r, rfl, hp⟩⟩ dL_treatyRate_19 (Nat.le_of_ble_eq_true rfl) (Nat.le_of_ble_eq_true rfl))

set_option maxHeartbeats 4000000 in
set_option maxRecDepth 100000 in
theorem c_L_pay (l : Launch) (hlt : l.stackTraces = false) (G : hv_G) (hX : hv) (sz : Nat) {ad : Nat → Nat → Nat} {n d : Nat} {dy : Int32} {rf : Int64} {ar : Nat → Nat → Int32} {fm : Nat → Int32} {po : Nat → List (Int32 × Int32 × Int32)} (hD : isD G hX ad n d d dy rf ar fm po) (p0 : Int32) (hn : n ≤ 20) (hd : d ≤ 40) (gz0 : d < 40 → ∀ j, j < 20 → ar 12 (20 * d + j) = 0) (hpo : ∀ m, (po m).length ≤ 32) (hgp : ¬ iw p0 1 1000 = 0 → ∀ k, k < n → (ar 6 k ≤ 0 ↔ ar 6 k * p0 = 0)) (oa : Nat) (v0 : Int64) (hdis : hv_dis hX (hv_out G oa v0)) : hv_Xi l yL_pay wsL_pay 13 410 503 2332 G (hv_j hX (hv_out G oa v0)) sz [.ref (ad 0 0), .int p0, .ref oa] (fun r u => ∃ (uX : hv) (v : Int64), u = hv_j uX (hv_out G oa v) ∧ hv_dis uX (hv_out G oa v) ∧ ((r = 0 ∧ ∃ r0 : Int32, v = r0.toInt64 ∧ (fun r u => fPy p0 d (l_sum (ar 6) n) = 0 ∧ r = nI d ∧ ∃ ad2, ad2 0 0 = ad 0 0 ∧ isD G u ad2 n (d + 1) (d + 1) dy rf (payDv ar dy d p0 (heP dy n ar d p0 (vfm dy (ar 7) n)) n) (va_up fm d (vfm dy (ar 7) n)) (poS po d (mkS dy n ar d p0 po) n)) r0 uX) ∨ (r = fPy p0 d (l_sum (ar 6) n) ∧ ¬ fPy p0 d (l_sum (ar 6) n) = 0 ∧ uX = hX))) (fun _ _ => False) := by
  refine hv_enterH (y := yL_pay) (avs := [.ref (ad 0 0), .int p0, .ref oa]) (maxL := 4) (hh := [(0, 9, 12, 13), (0, 9, 15, 19)]) (Qf := fun sz => va_Qi (fun r u => ∃ (uX : hv) (v : Int64), u = hv_j uX (hv_out G oa v) ∧ hv_dis uX (hv_out G oa v) ∧ ((r = 0 ∧ ∃ r0 : Int32, v = r0.toInt64 ∧ (fun r u => fPy p0 d (l_sum (ar 6) n) = 0 ∧ r = nI d ∧ ∃ ad2, ad2 0 0 = ad 0 0 ∧ isD G u ad2 n (d + 1) (d + 1) dy rf (payDv ar dy d p0 (heP dy n ar d p0 (vfm dy (ar 7) n)) n) (va_up fm d (vfm dy (ar 7) n)) (poS po d (mkS dy n ar d p0 po) n)) r0 uX) ∨ (r = fPy p0 d (l_sum (ar 6) n) ∧ ¬ fPy p0 d (l_sum (ar 6) n) = 0 ∧ uX = hX))) (hv_Bq G (hv_j hX (hv_out G oa v0)) sz) (hv_A (hv_j hX (hv_out G oa v0)) sz)) (XC := fun sz => hv_X G (hv_j hX (hv_out G oa v0)) sz (fun _ _ => False)) (by decide) rfl rfl (Nat.le_of_ble_eq_true rfl) ?_
  intro p e s m below meth c hr ht C I ls hl
  have hl : lv_has ls 4 [(0, .ref (ad 0 0)), (1, .int p0), (2, .ref oa)] := hl
  refine lv_aload_n C.1 C.2.1 dL_pay_0 rfl (lv_at hl 2 rfl) ?_
  refine lv_iconst (v := 0) C.1 C.2.1 dL_pay_1 (by decide) ?_
  refine lv_aload_n C.1 C.2.1 dL_pay_2 rfl (lv_at hl 0 rfl) ?_
  refine lv_iload_n C.1 C.2.1 dL_pay_3 rfl (lv_at hl 1 rfl) ?_
  refine hv_fxki I hdis (vx_runV (As := [.int p0]) (rest := [.int 0, .ref oa]) C.fix (c_X4_pay l hlt G hX _ hD p0 hn hd gz0 hpo hgp) (cwV 1 C.2.2.2.2.1 gL_pay_X4_pay rfl rfl rfl (by decide +kernel) ⟨Nat.le_of_ble_eq_true rfl, Nat.le_of_ble_eq_true rfl⟩) (hv_preV C I.left (isD_0 hD) (r := (RX4, TX4, 6)) rfl) rfl rfl hl.1 rfl (lv_room (Nat.le_of_ble_eq_true rfl)) dL_pay_4 ⟨Nat.le_of_ble_eq_true rfl, Nat.le_of_ble_eq_true rfl⟩) (fun E ce q9 u H locs hpx du I hq9 hv9 hcl9 => ?_) (fun r u H locs hp du I => ?_)
  · obtain ⟨e1, hE⟩ := hpx
    have e1 := e1.symm
    subst e1
    rcases hE with ⟨eF, rfl⟩ | ⟨eF, rfl⟩
    · refine vx_catch (name := "java/lang/IllegalArgumentException") C.2.2.2.1 [] ⟨0, 9, 12, 13⟩ [⟨0, 9, 15, 19⟩] (ht.trans rfl) (fun z hz => by cases hz) (by decide) (by decide) (C.ts (by decide +kernel)) (va_Nw.use rfl (C.nw (by decide +kernel))) hq9 hv9 hcl9 ?_
      refine lv_astore_n (lv' := [(3, .ref q9), (0, .ref (ad 0 0)), (1, .int p0), (2, .ref oa)]) C.1 C.2.1 dL_pay_12 rfl hl (by decide) rfl (fun ls hl => ?_)
      refine lv_iconst (v := 1) C.1 C.2.1 dL_pay_13 (by decide) ?_
      exact vx_ret (hv_iret (v := 1) C hr I ⟨hX, v0, rfl, du, Or.inr ⟨eF.symm, fun z => absurd (eF.symm.trans z) (by decide), rfl⟩⟩ dL_pay_14 (Nat.le_of_ble_eq_true rfl) (Nat.le_of_ble_eq_true rfl))
    · refine vx_catch (name := "java/lang/IllegalStateException") C.2.2.2.1 [⟨0, 9, 12, 13⟩] ⟨0, 9, 15, 19⟩ [] (ht.trans rfl) (hv_p1 (Or.inr ⟨by decide, "java/lang/IllegalArgumentException", C.ts (by decide +kernel), C.E.2.2.2.2.2.2.2 ("java/lang/IllegalStateException", "java/lang/IllegalArgumentException") (by decide)⟩)) (by decide) (by decide) (C.ts (by decide +kernel)) (va_Nw.use rfl (C.nw (by decide +kernel))) hq9 hv9 hcl9 ?_
      refine lv_astore_n (lv' := [(3, .ref q9), (0, .ref (ad 0 0)), (1, .int p0), (2, .ref oa)]) C.1 C.2.1 dL_pay_15 rfl hl (by decide) rfl (fun ls hl => ?_)
      refine lv_iconst (v := 2) C.1 C.2.1 dL_pay_16 (by decide) ?_
      exact vx_ret (hv_iret (v := 2) C hr I ⟨hX, v0, rfl, du, Or.inr ⟨eF.symm, fun z => absurd (eF.symm.trans z) (by decide), rfl⟩⟩ dL_pay_17 (Nat.le_of_ble_eq_true rfl) (Nat.le_of_ble_eq_true rfl))
  · refine lv_i2l C.1 C.2.1 dL_pay_7 rfl ?_
    refine hv_last C I (hv_j_b du (hv_out_eq G oa v0)) (i := 0) (show vp_in (nI 0) 1 from vp_in_nI (by decide) (by decide)) dL_pay_8 (fun H locs I => ?_)
    have du2 : hv_dis u (hv_out G oa r.toInt64) := by rw [← hv_out_st G oa v0]; exact hv_dis_up du (hv_out_eq G oa v0)
    have I : hv_I G (hv_j hX (hv_out G oa v0)) s (hv_j u (hv_out G oa r.toInt64)) H locs := by rw [← hv_out_st G oa v0 r.toInt64, ← hv_j_up du (hv_out_eq G oa v0)]; exact I
    refine lv_goto (tgt := 18) C.1 C.2.1 dL_pay_9 (by decide) ?_
    refine lv_iconst (v := 0) C.1 C.2.1 dL_pay_18 (by decide) ?_
    exact vx_ret (hv_iret (v := 0) C hr I ⟨u, r.toInt64, rfl, du2, Or.inl ⟨rfl, r, rfl, hp⟩⟩ dL_pay_19 (Nat.le_of_ble_eq_true rfl) (Nat.le_of_ble_eq_true rfl))

set_option maxHeartbeats 4000000 in
set_option maxRecDepth 100000 in
theorem c_L_gross (l : Launch) (hlt : l.stackTraces = false) (G : hv_G) (hX : hv) (sz : Nat) {ad : Nat → Nat → Nat} {n d dl : Nat} {dy : Int32} {rf : Int64} {ar : Nat → Nat → Int32} {fm : Nat → Int32} {po : Nat → List (Int32 × Int32 × Int32)} (hD : isD G hX ad n d dl dy rf ar fm po) (p0 p1 : Int32) (hn : n ≤ 20) (hdl : dl ≤ d) (hd : d ≤ 40) (hpo : ∀ m, pmL d (ar 12) m → (po m).length ≤ 32) (oa : Nat) (v0 : Int64) (hdis : hv_dis hX (hv_out G oa v0)) : hv_Xi l yL_gross wsL_gross 11 450 2 12 G (hv_j hX (hv_out G oa v0)) sz [.ref (ad 0 0), .int p0, .int p1, .ref oa] (fun r u => ∃ (uX : hv) (v : Int64), u = hv_j uX (hv_out G oa v) ∧ hv_dis uX (hv_out G oa v) ∧ ((r = 0 ∧ ∃ r0 : Int32, v = r0.toInt64 ∧ (fun r u => fAa p0 p1 n dl = 0 ∧ u = hX ∧ r = ar 12 (20 * p0.toNatClampNeg + p1.toNatClampNeg)) r0 uX) ∨ (r = fAa p0 p1 n dl ∧ ¬ fAa p0 p1 n dl = 0 ∧ uX = hX))) (fun _ _ => False) := by
  refine hv_enterH (y := yL_gross) (avs := [.ref (ad 0 0), .int p0, .int p1, .ref oa]) (maxL := 5) (hh := [(0, 10, 13, 24)]) (Qf := fun sz => va_Qi (fun r u => ∃ (uX : hv) (v : Int64), u = hv_j uX (hv_out G oa v) ∧ hv_dis uX (hv_out G oa v) ∧ ((r = 0 ∧ ∃ r0 : Int32, v = r0.toInt64 ∧ (fun r u => fAa p0 p1 n dl = 0 ∧ u = hX ∧ r = ar 12 (20 * p0.toNatClampNeg + p1.toNatClampNeg)) r0 uX) ∨ (r = fAa p0 p1 n dl ∧ ¬ fAa p0 p1 n dl = 0 ∧ uX = hX))) (hv_Bq G (hv_j hX (hv_out G oa v0)) sz) (hv_A (hv_j hX (hv_out G oa v0)) sz)) (XC := fun sz => hv_X G (hv_j hX (hv_out G oa v0)) sz (fun _ _ => False)) (by decide) rfl rfl (Nat.le_of_ble_eq_true rfl) ?_
  intro p e s m below meth c hr ht C I ls hl
  have hl : lv_has ls 5 [(0, .ref (ad 0 0)), (1, .int p0), (2, .int p1), (3, .ref oa)] := hl
  refine lv_aload_n C.1 C.2.1 dL_gross_0 rfl (lv_at hl 3 rfl) ?_
  refine lv_iconst (v := 0) C.1 C.2.1 dL_gross_1 (by decide) ?_
  refine lv_aload_n C.1 C.2.1 dL_gross_2 rfl (lv_at hl 0 rfl) ?_
  refine lv_iload_n C.1 C.2.1 dL_gross_3 rfl (lv_at hl 1 rfl) ?_
  refine lv_iload_n C.1 C.2.1 dL_gross_4 rfl (lv_at hl 2 rfl) ?_
  refine hv_fxki I hdis (vx_runV (As := [.int p0, .int p1]) (rest := [.int 0, .ref oa]) C.fix (c_X4_gross l hlt G hX _ hD p0 p1 hn hdl hd hpo) (cwV 2 C.2.2.2.2.1 gL_gross_X4_gross rfl rfl rfl (by decide +kernel) ⟨Nat.le_of_ble_eq_true rfl, Nat.le_of_ble_eq_true rfl⟩) (hv_preV C I.left (isD_0 hD) (r := (RX4, TX4, 6)) rfl) rfl rfl hl.1 rfl (lv_room (Nat.le_of_ble_eq_true rfl)) dL_gross_5 ⟨Nat.le_of_ble_eq_true rfl, Nat.le_of_ble_eq_true rfl⟩) (fun E ce q9 u H locs hpx du I hq9 hv9 hcl9 => ?_) (fun r u H locs hp du I => ?_)
  · obtain ⟨e1, hE⟩ := hpx
    have e1 := e1.symm
    subst e1
    obtain ⟨eF, rfl⟩ := hE
    refine vx_catch (name := "java/lang/IndexOutOfBoundsException") C.2.2.2.1 [] ⟨0, 10, 13, 24⟩ [] (ht.trans rfl) (fun z hz => by cases hz) (by decide) (by decide) (C.ts (by decide +kernel)) (va_Nw.use rfl (C.nw (by decide +kernel))) hq9 hv9 hcl9 ?_
    refine lv_astore (lv' := [(4, .ref q9), (0, .ref (ad 0 0)), (1, .int p0), (2, .int p1), (3, .ref oa)]) C.1 C.2.1 dL_gross_13 hl (by decide) rfl (fun ls hl => ?_)
    refine lv_iconst (v := 1) C.1 C.2.1 dL_gross_15 (by decide) ?_
    exact vx_ret (hv_iret (v := 1) C hr I ⟨hX, v0, rfl, du, Or.inr ⟨eF.symm, fun z => absurd (eF.symm.trans z) (by decide), rfl⟩⟩ dL_gross_16 (Nat.le_of_ble_eq_true rfl) (Nat.le_of_ble_eq_true rfl))
  · refine lv_i2l C.1 C.2.1 dL_gross_8 rfl ?_
    refine hv_last C I (hv_j_b du (hv_out_eq G oa v0)) (i := 0) (show vp_in (nI 0) 1 from vp_in_nI (by decide) (by decide)) dL_gross_9 (fun H locs I => ?_)
    have du2 : hv_dis u (hv_out G oa r.toInt64) := by rw [← hv_out_st G oa v0]; exact hv_dis_up du (hv_out_eq G oa v0)
    have I : hv_I G (hv_j hX (hv_out G oa v0)) s (hv_j u (hv_out G oa r.toInt64)) H locs := by rw [← hv_out_st G oa v0 r.toInt64, ← hv_j_up du (hv_out_eq G oa v0)]; exact I
    refine lv_goto (tgt := 17) C.1 C.2.1 dL_gross_10 (by decide) ?_
    refine lv_iconst (v := 0) C.1 C.2.1 dL_gross_17 (by decide) ?_
    exact vx_ret (hv_iret (v := 0) C hr I ⟨u, r.toInt64, rfl, du2, Or.inl ⟨rfl, r, rfl, hp⟩⟩ dL_gross_18 (Nat.le_of_ble_eq_true rfl) (Nat.le_of_ble_eq_true rfl))

set_option maxHeartbeats 4000000 in
set_option maxRecDepth 100000 in
theorem c_L_held (l : Launch) (hlt : l.stackTraces = false) (G : hv_G) (hX : hv) (sz : Nat) {ad : Nat → Nat → Nat} {n d dl : Nat} {dy : Int32} {rf : Int64} {ar : Nat → Nat → Int32} {fm : Nat → Int32} {po : Nat → List (Int32 × Int32 × Int32)} (hD : isD G hX ad n d dl dy rf ar fm po) (p0 p1 : Int32) (hn : n ≤ 20) (hdl : dl ≤ d) (hd : d ≤ 40) (hpo : ∀ m, pmL d (ar 12) m → (po m).length ≤ 32) (oa : Nat) (v0 : Int64) (hdis : hv_dis hX (hv_out G oa v0)) : hv_Xi l yL_held wsL_held 11 450 2 12 G (hv_j hX (hv_out G oa v0)) sz [.ref (ad 0 0), .int p0, .int p1, .ref oa] (fun r u => ∃ (uX : hv) (v : Int64), u = hv_j uX (hv_out G oa v) ∧ hv_dis uX (hv_out G oa v) ∧ ((r = 0 ∧ ∃ r0 : Int32, v = r0.toInt64 ∧ (fun r u => fAa p0 p1 n dl = 0 ∧ u = hX ∧ r = if ar 12 (20 * p0.toNatClampNeg + p1.toNatClampNeg) = 0 then 0 else ar 13 (20 * p0.toNatClampNeg + p1.toNatClampNeg)) r0 uX) ∨ (r = fAa p0 p1 n dl ∧ ¬ fAa p0 p1 n dl = 0 ∧ uX = hX))) (fun _ _ => False) := by
  refine hv_enterH (y := yL_held) (avs := [.ref (ad 0 0), .int p0, .int p1, .ref oa]) (maxL := 5) (hh := [(0, 10, 13, 24)]) (Qf := fun sz => va_Qi (fun r u => ∃ (uX : hv) (v : Int64), u = hv_j uX (hv_out G oa v) ∧ hv_dis uX (hv_out G oa v) ∧ ((r = 0 ∧ ∃ r0 : Int32, v = r0.toInt64 ∧ (fun r u => fAa p0 p1 n dl = 0 ∧ u = hX ∧ r = if ar 12 (20 * p0.toNatClampNeg + p1.toNatClampNeg) = 0 then 0 else ar 13 (20 * p0.toNatClampNeg + p1.toNatClampNeg)) r0 uX) ∨ (r = fAa p0 p1 n dl ∧ ¬ fAa p0 p1 n dl = 0 ∧ uX = hX))) (hv_Bq G (hv_j hX (hv_out G oa v0)) sz) (hv_A (hv_j hX (hv_out G oa v0)) sz)) (XC := fun sz => hv_X G (hv_j hX (hv_out G oa v0)) sz (fun _ _ => False)) (by decide) rfl rfl (Nat.le_of_ble_eq_true rfl) ?_
  intro p e s m below meth c hr ht C I ls hl
  have hl : lv_has ls 5 [(0, .ref (ad 0 0)), (1, .int p0), (2, .int p1), (3, .ref oa)] := hl
  refine lv_aload_n C.1 C.2.1 dL_held_0 rfl (lv_at hl 3 rfl) ?_
  refine lv_iconst (v := 0) C.1 C.2.1 dL_held_1 (by decide) ?_
  refine lv_aload_n C.1 C.2.1 dL_held_2 rfl (lv_at hl 0 rfl) ?_
  refine lv_iload_n C.1 C.2.1 dL_held_3 rfl (lv_at hl 1 rfl) ?_
  refine lv_iload_n C.1 C.2.1 dL_held_4 rfl (lv_at hl 2 rfl) ?_
  refine hv_fxki I hdis (vx_runV (As := [.int p0, .int p1]) (rest := [.int 0, .ref oa]) C.fix (c_X4_held l hlt G hX _ hD p0 p1 hn hdl hd hpo) (cwV 2 C.2.2.2.2.1 gL_held_X4_held rfl rfl rfl (by decide +kernel) ⟨Nat.le_of_ble_eq_true rfl, Nat.le_of_ble_eq_true rfl⟩) (hv_preV C I.left (isD_0 hD) (r := (RX4, TX4, 6)) rfl) rfl rfl hl.1 rfl (lv_room (Nat.le_of_ble_eq_true rfl)) dL_held_5 ⟨Nat.le_of_ble_eq_true rfl, Nat.le_of_ble_eq_true rfl⟩) (fun E ce q9 u H locs hpx du I hq9 hv9 hcl9 => ?_) (fun r u H locs hp du I => ?_)
  · obtain ⟨e1, hE⟩ := hpx
    have e1 := e1.symm
    subst e1
    obtain ⟨eF, rfl⟩ := hE
    refine vx_catch (name := "java/lang/IndexOutOfBoundsException") C.2.2.2.1 [] ⟨0, 10, 13, 24⟩ [] (ht.trans rfl) (fun z hz => by cases hz) (by decide) (by decide) (C.ts (by decide +kernel)) (va_Nw.use rfl (C.nw (by decide +kernel))) hq9 hv9 hcl9 ?_
    refine lv_astore (lv' := [(4, .ref q9), (0, .ref (ad 0 0)), (1, .int p0), (2, .int p1), (3, .ref oa)]) C.1 C.2.1 dL_held_13 hl (by decide) rfl (fun ls hl => ?_)
    refine lv_iconst (v := 1) C.1 C.2.1 dL_held_15 (by decide) ?_
    exact vx_ret (hv_iret (v := 1) C hr I ⟨hX, v0, rfl, du, Or.inr ⟨eF.symm, fun z => absurd (eF.symm.trans z) (by decide), rfl⟩⟩ dL_held_16 (Nat.le_of_ble_eq_true rfl) (Nat.le_of_ble_eq_true rfl))
  · refine lv_i2l C.1 C.2.1 dL_held_8 rfl ?_
    refine hv_last C I (hv_j_b du (hv_out_eq G oa v0)) (i := 0) (show vp_in (nI 0) 1 from vp_in_nI (by decide) (by decide)) dL_held_9 (fun H locs I => ?_)
    have du2 : hv_dis u (hv_out G oa r.toInt64) := by rw [← hv_out_st G oa v0]; exact hv_dis_up du (hv_out_eq G oa v0)
    have I : hv_I G (hv_j hX (hv_out G oa v0)) s (hv_j u (hv_out G oa r.toInt64)) H locs := by rw [← hv_out_st G oa v0 r.toInt64, ← hv_j_up du (hv_out_eq G oa v0)]; exact I
    refine lv_goto (tgt := 17) C.1 C.2.1 dL_held_10 (by decide) ?_
    refine lv_iconst (v := 0) C.1 C.2.1 dL_held_17 (by decide) ?_
    exact vx_ret (hv_iret (v := 0) C hr I ⟨u, r.toInt64, rfl, du2, Or.inl ⟨rfl, r, rfl, hp⟩⟩ dL_held_18 (Nat.le_of_ble_eq_true rfl) (Nat.le_of_ble_eq_true rfl))

set_option maxHeartbeats 4000000 in
set_option maxRecDepth 100000 in
theorem c_L_due (l : Launch) (hlt : l.stackTraces = false) (G : hv_G) (hX : hv) (sz : Nat) {ad : Nat → Nat → Nat} {n d dl : Nat} {dy : Int32} {rf : Int64} {ar : Nat → Nat → Int32} {fm : Nat → Int32} {po : Nat → List (Int32 × Int32 × Int32)} (hD : isD G hX ad n d dl dy rf ar fm po) (p0 p1 : Int32) (hn : n ≤ 20) (hdl : dl ≤ d) (hd : d ≤ 40) (hpo : ∀ m, pmL d (ar 12) m → (po m).length ≤ 32) (oa : Nat) (v0 : Int64) (hdis : hv_dis hX (hv_out G oa v0)) : hv_Xi l yL_due wsL_due 11 450 2 12 G (hv_j hX (hv_out G oa v0)) sz [.ref (ad 0 0), .int p0, .int p1, .ref oa] (fun r u => ∃ (uX : hv) (v : Int64), u = hv_j uX (hv_out G oa v) ∧ hv_dis uX (hv_out G oa v) ∧ ((r = 0 ∧ ∃ r0 : Int32, v = r0.toInt64 ∧ (fun r u => fAa p0 p1 n dl = 0 ∧ u = hX ∧ r = if ar 12 (20 * p0.toNatClampNeg + p1.toNatClampNeg) = 0 then 0 else tall (po (20 * p0.toNatClampNeg + p1.toNatClampNeg)) (-1)) r0 uX) ∨ (r = fAa p0 p1 n dl ∧ ¬ fAa p0 p1 n dl = 0 ∧ uX = hX))) (fun _ _ => False) := by
  refine hv_enterH (y := yL_due) (avs := [.ref (ad 0 0), .int p0, .int p1, .ref oa]) (maxL := 5) (hh := [(0, 10, 13, 24)]) (Qf := fun sz => va_Qi (fun r u => ∃ (uX : hv) (v : Int64), u = hv_j uX (hv_out G oa v) ∧ hv_dis uX (hv_out G oa v) ∧ ((r = 0 ∧ ∃ r0 : Int32, v = r0.toInt64 ∧ (fun r u => fAa p0 p1 n dl = 0 ∧ u = hX ∧ r = if ar 12 (20 * p0.toNatClampNeg + p1.toNatClampNeg) = 0 then 0 else tall (po (20 * p0.toNatClampNeg + p1.toNatClampNeg)) (-1)) r0 uX) ∨ (r = fAa p0 p1 n dl ∧ ¬ fAa p0 p1 n dl = 0 ∧ uX = hX))) (hv_Bq G (hv_j hX (hv_out G oa v0)) sz) (hv_A (hv_j hX (hv_out G oa v0)) sz)) (XC := fun sz => hv_X G (hv_j hX (hv_out G oa v0)) sz (fun _ _ => False)) (by decide) rfl rfl (Nat.le_of_ble_eq_true rfl) ?_
  intro p e s m below meth c hr ht C I ls hl
  have hl : lv_has ls 5 [(0, .ref (ad 0 0)), (1, .int p0), (2, .int p1), (3, .ref oa)] := hl
  refine lv_aload_n C.1 C.2.1 dL_due_0 rfl (lv_at hl 3 rfl) ?_
  refine lv_iconst (v := 0) C.1 C.2.1 dL_due_1 (by decide) ?_
  refine lv_aload_n C.1 C.2.1 dL_due_2 rfl (lv_at hl 0 rfl) ?_
  refine lv_iload_n C.1 C.2.1 dL_due_3 rfl (lv_at hl 1 rfl) ?_
  refine lv_iload_n C.1 C.2.1 dL_due_4 rfl (lv_at hl 2 rfl) ?_
  refine hv_fxki I hdis (vx_runV (As := [.int p0, .int p1]) (rest := [.int 0, .ref oa]) C.fix (c_X4_due l hlt G hX _ hD p0 p1 hn hdl hd hpo) (cwV 2 C.2.2.2.2.1 gL_due_X4_due rfl rfl rfl (by decide +kernel) ⟨Nat.le_of_ble_eq_true rfl, Nat.le_of_ble_eq_true rfl⟩) (hv_preV C I.left (isD_0 hD) (r := (RX4, TX4, 6)) rfl) rfl rfl hl.1 rfl (lv_room (Nat.le_of_ble_eq_true rfl)) dL_due_5 ⟨Nat.le_of_ble_eq_true rfl, Nat.le_of_ble_eq_true rfl⟩) (fun E ce q9 u H locs hpx du I hq9 hv9 hcl9 => ?_) (fun r u H locs hp du I => ?_)
  · obtain ⟨e1, hE⟩ := hpx
    have e1 := e1.symm
    subst e1
    obtain ⟨eF, rfl⟩ := hE
    refine vx_catch (name := "java/lang/IndexOutOfBoundsException") C.2.2.2.1 [] ⟨0, 10, 13, 24⟩ [] (ht.trans rfl) (fun z hz => by cases hz) (by decide) (by decide) (C.ts (by decide +kernel)) (va_Nw.use rfl (C.nw (by decide +kernel))) hq9 hv9 hcl9 ?_
    refine lv_astore (lv' := [(4, .ref q9), (0, .ref (ad 0 0)), (1, .int p0), (2, .int p1), (3, .ref oa)]) C.1 C.2.1 dL_due_13 hl (by decide) rfl (fun ls hl => ?_)
    refine lv_iconst (v := 1) C.1 C.2.1 dL_due_15 (by decide) ?_
    exact vx_ret (hv_iret (v := 1) C hr I ⟨hX, v0, rfl, du, Or.inr ⟨eF.symm, fun z => absurd (eF.symm.trans z) (by decide), rfl⟩⟩ dL_due_16 (Nat.le_of_ble_eq_true rfl) (Nat.le_of_ble_eq_true rfl))
  · refine lv_i2l C.1 C.2.1 dL_due_8 rfl ?_
    refine hv_last C I (hv_j_b du (hv_out_eq G oa v0)) (i := 0) (show vp_in (nI 0) 1 from vp_in_nI (by decide) (by decide)) dL_due_9 (fun H locs I => ?_)
    have du2 : hv_dis u (hv_out G oa r.toInt64) := by rw [← hv_out_st G oa v0]; exact hv_dis_up du (hv_out_eq G oa v0)
    have I : hv_I G (hv_j hX (hv_out G oa v0)) s (hv_j u (hv_out G oa r.toInt64)) H locs := by rw [← hv_out_st G oa v0 r.toInt64, ← hv_j_up du (hv_out_eq G oa v0)]; exact I
    refine lv_goto (tgt := 17) C.1 C.2.1 dL_due_10 (by decide) ?_
    refine lv_iconst (v := 0) C.1 C.2.1 dL_due_17 (by decide) ?_
    exact vx_ret (hv_iret (v := 0) C hr I ⟨u, r.toInt64, rfl, du2, Or.inl ⟨rfl, r, rfl, hp⟩⟩ dL_due_18 (Nat.le_of_ble_eq_true rfl) (Nat.le_of_ble_eq_true rfl))

set_option maxHeartbeats 4000000 in
set_option maxRecDepth 100000 in
theorem c_L_refund (l : Launch) (hlt : l.stackTraces = false) (G : hv_G) (hX : hv) (sz : Nat) {ad : Nat → Nat → Nat} {n d dl : Nat} {dy : Int32} {rf : Int64} {ar : Nat → Nat → Int32} {fm : Nat → Int32} {po : Nat → List (Int32 × Int32 × Int32)} (hD : isD G hX ad n d dl dy rf ar fm po) (p0 p1 : Int32) (hn : n ≤ 20) (hdl : dl ≤ d) (hd : d ≤ 40) (hpo : ∀ m, pmL d (ar 12) m → (po m).length ≤ 32) (oa : Nat) (v0 : Int64) (hdis : hv_dis hX (hv_out G oa v0)) : hv_Xi l yL_refund wsL_refund 13 450 6 36 G (hv_j hX (hv_out G oa v0)) sz [.ref (ad 0 0), .int p0, .int p1, .ref oa] (fun r u => ∃ (uX : hv) (v : Int64), u = hv_j uX (hv_out G oa v) ∧ hv_dis uX (hv_out G oa v) ∧ ((r = 0 ∧ ∃ r0 : Int32, v = r0.toInt64 ∧ (fun r u => fRf p0 p1 n dl (ar 12) (ar 11) dy = 0 ∧ r = lowF (ar 13 (20 * p0.toNatClampNeg + p1.toNatClampNeg)) (tall (po (20 * p0.toNatClampNeg + p1.toNatClampNeg)) (fm p0.toNatClampNeg ||| vfm dy (ar 7) n)) ∧ isD G u ad n d dl dy (rf + (lowF (ar 13 (20 * p0.toNatClampNeg + p1.toNatClampNeg)) (tall (po (20 * p0.toNatClampNeg + p1.toNatClampNeg)) (fm p0.toNatClampNeg ||| vfm dy (ar 7) n))).toInt64) (va_up ar 13 (upd (ar 13) (20 * p0.toNatClampNeg + p1.toNatClampNeg) (ar 13 (20 * p0.toNatClampNeg + p1.toNatClampNeg) - lowF (ar 13 (20 * p0.toNatClampNeg + p1.toNatClampNeg)) (tall (po (20 * p0.toNatClampNeg + p1.toNatClampNeg)) (fm p0.toNatClampNeg ||| vfm dy (ar 7) n))))) fm po) r0 uX) ∨ (r = fRf p0 p1 n dl (ar 12) (ar 11) dy ∧ ¬ fRf p0 p1 n dl (ar 12) (ar 11) dy = 0 ∧ uX = hX))) (fun _ _ => False) := by
  refine hv_enterH (y := yL_refund) (avs := [.ref (ad 0 0), .int p0, .int p1, .ref oa]) (maxL := 5) (hh := [(0, 10, 13, 24), (0, 10, 17, 19)]) (Qf := fun sz => va_Qi (fun r u => ∃ (uX : hv) (v : Int64), u = hv_j uX (hv_out G oa v) ∧ hv_dis uX (hv_out G oa v) ∧ ((r = 0 ∧ ∃ r0 : Int32, v = r0.toInt64 ∧ (fun r u => fRf p0 p1 n dl (ar 12) (ar 11) dy = 0 ∧ r = lowF (ar 13 (20 * p0.toNatClampNeg + p1.toNatClampNeg)) (tall (po (20 * p0.toNatClampNeg + p1.toNatClampNeg)) (fm p0.toNatClampNeg ||| vfm dy (ar 7) n)) ∧ isD G u ad n d dl dy (rf + (lowF (ar 13 (20 * p0.toNatClampNeg + p1.toNatClampNeg)) (tall (po (20 * p0.toNatClampNeg + p1.toNatClampNeg)) (fm p0.toNatClampNeg ||| vfm dy (ar 7) n))).toInt64) (va_up ar 13 (upd (ar 13) (20 * p0.toNatClampNeg + p1.toNatClampNeg) (ar 13 (20 * p0.toNatClampNeg + p1.toNatClampNeg) - lowF (ar 13 (20 * p0.toNatClampNeg + p1.toNatClampNeg)) (tall (po (20 * p0.toNatClampNeg + p1.toNatClampNeg)) (fm p0.toNatClampNeg ||| vfm dy (ar 7) n))))) fm po) r0 uX) ∨ (r = fRf p0 p1 n dl (ar 12) (ar 11) dy ∧ ¬ fRf p0 p1 n dl (ar 12) (ar 11) dy = 0 ∧ uX = hX))) (hv_Bq G (hv_j hX (hv_out G oa v0)) sz) (hv_A (hv_j hX (hv_out G oa v0)) sz)) (XC := fun sz => hv_X G (hv_j hX (hv_out G oa v0)) sz (fun _ _ => False)) (by decide) rfl rfl (Nat.le_of_ble_eq_true rfl) ?_
  intro p e s m below meth c hr ht C I ls hl
  have hl : lv_has ls 5 [(0, .ref (ad 0 0)), (1, .int p0), (2, .int p1), (3, .ref oa)] := hl
  refine lv_aload_n C.1 C.2.1 dL_refund_0 rfl (lv_at hl 3 rfl) ?_
  refine lv_iconst (v := 0) C.1 C.2.1 dL_refund_1 (by decide) ?_
  refine lv_aload_n C.1 C.2.1 dL_refund_2 rfl (lv_at hl 0 rfl) ?_
  refine lv_iload_n C.1 C.2.1 dL_refund_3 rfl (lv_at hl 1 rfl) ?_
  refine lv_iload_n C.1 C.2.1 dL_refund_4 rfl (lv_at hl 2 rfl) ?_
  refine hv_fxki I hdis (vx_runV (As := [.int p0, .int p1]) (rest := [.int 0, .ref oa]) C.fix (c_X4_refund l hlt G hX _ hD p0 p1 hn hdl hd hpo) (cwV 2 C.2.2.2.2.1 gL_refund_X4_refund rfl rfl rfl (by decide +kernel) ⟨Nat.le_of_ble_eq_true rfl, Nat.le_of_ble_eq_true rfl⟩) (hv_preV C I.left (isD_0 hD) (r := (RX4, TX4, 6)) rfl) rfl rfl hl.1 rfl (lv_room (Nat.le_of_ble_eq_true rfl)) dL_refund_5 ⟨Nat.le_of_ble_eq_true rfl, Nat.le_of_ble_eq_true rfl⟩) (fun E ce q9 u H locs hpx du I hq9 hv9 hcl9 => ?_) (fun r u H locs hp du I => ?_)
  · obtain ⟨e1, hE⟩ := hpx
    have e1 := e1.symm
    subst e1
    rcases hE with ⟨eF, rfl⟩ | ⟨eF, rfl⟩
    · refine vx_catch (name := "java/lang/IndexOutOfBoundsException") C.2.2.2.1 [] ⟨0, 10, 13, 24⟩ [⟨0, 10, 17, 19⟩] (ht.trans rfl) (fun z hz => by cases hz) (by decide) (by decide) (C.ts (by decide +kernel)) (va_Nw.use rfl (C.nw (by decide +kernel))) hq9 hv9 hcl9 ?_
      refine lv_astore (lv' := [(4, .ref q9), (0, .ref (ad 0 0)), (1, .int p0), (2, .int p1), (3, .ref oa)]) C.1 C.2.1 dL_refund_13 hl (by decide) rfl (fun ls hl => ?_)
      refine lv_iconst (v := 1) C.1 C.2.1 dL_refund_15 (by decide) ?_
      exact vx_ret (hv_iret (v := 1) C hr I ⟨hX, v0, rfl, du, Or.inr ⟨eF.symm, fun z => absurd (eF.symm.trans z) (by decide), rfl⟩⟩ dL_refund_16 (Nat.le_of_ble_eq_true rfl) (Nat.le_of_ble_eq_true rfl))
    · refine vx_catch (name := "java/lang/IllegalStateException") C.2.2.2.1 [⟨0, 10, 13, 24⟩] ⟨0, 10, 17, 19⟩ [] (ht.trans rfl) (hv_p1 (Or.inr ⟨by decide, "java/lang/IndexOutOfBoundsException", C.ts (by decide +kernel), C.E.2.2.2.2.2.2.2 ("java/lang/IllegalStateException", "java/lang/IndexOutOfBoundsException") (by decide)⟩)) (by decide) (by decide) (C.ts (by decide +kernel)) (va_Nw.use rfl (C.nw (by decide +kernel))) hq9 hv9 hcl9 ?_
      refine lv_astore (lv' := [(4, .ref q9), (0, .ref (ad 0 0)), (1, .int p0), (2, .int p1), (3, .ref oa)]) C.1 C.2.1 dL_refund_17 hl (by decide) rfl (fun ls hl => ?_)
      refine lv_iconst (v := 2) C.1 C.2.1 dL_refund_19 (by decide) ?_
      exact vx_ret (hv_iret (v := 2) C hr I ⟨hX, v0, rfl, du, Or.inr ⟨eF.symm, fun z => absurd (eF.symm.trans z) (by decide), rfl⟩⟩ dL_refund_20 (Nat.le_of_ble_eq_true rfl) (Nat.le_of_ble_eq_true rfl))
  · refine lv_i2l C.1 C.2.1 dL_refund_8 rfl ?_
    refine hv_last C I (hv_j_b du (hv_out_eq G oa v0)) (i := 0) (show vp_in (nI 0) 1 from vp_in_nI (by decide) (by decide)) dL_refund_9 (fun H locs I => ?_)
    have du2 : hv_dis u (hv_out G oa r.toInt64) := by rw [← hv_out_st G oa v0]; exact hv_dis_up du (hv_out_eq G oa v0)
    have I : hv_I G (hv_j hX (hv_out G oa v0)) s (hv_j u (hv_out G oa r.toInt64)) H locs := by rw [← hv_out_st G oa v0 r.toInt64, ← hv_j_up du (hv_out_eq G oa v0)]; exact I
    refine lv_goto (tgt := 21) C.1 C.2.1 dL_refund_10 (by decide) ?_
    refine lv_iconst (v := 0) C.1 C.2.1 dL_refund_21 (by decide) ?_
    exact vx_ret (hv_iret (v := 0) C hr I ⟨u, r.toInt64, rfl, du2, Or.inl ⟨rfl, r, rfl, hp⟩⟩ dL_refund_22 (Nat.le_of_ble_eq_true rfl) (Nat.le_of_ble_eq_true rfl))

set_option maxHeartbeats 4000000 in
set_option maxRecDepth 100000 in
theorem c_L_claim (l : Launch) (hlt : l.stackTraces = false) (G : hv_G) (hX : hv) (sz : Nat) {ad : Nat → Nat → Nat} {n d dl : Nat} {dy : Int32} {rf : Int64} {ar : Nat → Nat → Int32} {fm : Nat → Int32} {po : Nat → List (Int32 × Int32 × Int32)} (hD : isD G hX ad n d dl dy rf ar fm po) (p0 p1 : Int32) (hn : n ≤ 20) (hdl : dl ≤ d) (hd : d ≤ 40) (hpo : ∀ m, pmL d (ar 12) m → (po m).length ≤ 32) (oa : Nat) (v0 : Int64) (hdis : hv_dis hX (hv_out G oa v0)) : hv_Xi l yL_claim wsL_claim 13 450 8 48 G (hv_j hX (hv_out G oa v0)) sz [.ref (ad 0 0), .int p0, .int p1, .ref oa] (fun r u => ∃ (uX : hv) (v : Int64), u = hv_j uX (hv_out G oa v) ∧ hv_dis uX (hv_out G oa v) ∧ ((r = 0 ∧ ∃ r0 : Int32, v = r0.toInt64 ∧ (fun r u => fCl p0 p1 n dl (ar 12) (ar 11) (ar 7) dy = 0 ∧ r = lowF (ar 13 (20 * p0.toNatClampNeg + p1.toNatClampNeg)) (tall (po (20 * p0.toNatClampNeg + p1.toNatClampNeg)) (-1)) ∧ isD G u ad n d dl dy (rf + (lowF (ar 13 (20 * p0.toNatClampNeg + p1.toNatClampNeg)) (tall (po (20 * p0.toNatClampNeg + p1.toNatClampNeg)) (-1))).toInt64) (va_up ar 13 (upd (ar 13) (20 * p0.toNatClampNeg + p1.toNatClampNeg) (ar 13 (20 * p0.toNatClampNeg + p1.toNatClampNeg) - lowF (ar 13 (20 * p0.toNatClampNeg + p1.toNatClampNeg)) (tall (po (20 * p0.toNatClampNeg + p1.toNatClampNeg)) (-1))))) fm po) r0 uX) ∨ (r = fCl p0 p1 n dl (ar 12) (ar 11) (ar 7) dy ∧ ¬ fCl p0 p1 n dl (ar 12) (ar 11) (ar 7) dy = 0 ∧ uX = hX))) (fun _ _ => False) := by
  refine hv_enterH (y := yL_claim) (avs := [.ref (ad 0 0), .int p0, .int p1, .ref oa]) (maxL := 5) (hh := [(0, 10, 13, 24), (0, 10, 17, 19)]) (Qf := fun sz => va_Qi (fun r u => ∃ (uX : hv) (v : Int64), u = hv_j uX (hv_out G oa v) ∧ hv_dis uX (hv_out G oa v) ∧ ((r = 0 ∧ ∃ r0 : Int32, v = r0.toInt64 ∧ (fun r u => fCl p0 p1 n dl (ar 12) (ar 11) (ar 7) dy = 0 ∧ r = lowF (ar 13 (20 * p0.toNatClampNeg + p1.toNatClampNeg)) (tall (po (20 * p0.toNatClampNeg + p1.toNatClampNeg)) (-1)) ∧ isD G u ad n d dl dy (rf + (lowF (ar 13 (20 * p0.toNatClampNeg + p1.toNatClampNeg)) (tall (po (20 * p0.toNatClampNeg + p1.toNatClampNeg)) (-1))).toInt64) (va_up ar 13 (upd (ar 13) (20 * p0.toNatClampNeg + p1.toNatClampNeg) (ar 13 (20 * p0.toNatClampNeg + p1.toNatClampNeg) - lowF (ar 13 (20 * p0.toNatClampNeg + p1.toNatClampNeg)) (tall (po (20 * p0.toNatClampNeg + p1.toNatClampNeg)) (-1))))) fm po) r0 uX) ∨ (r = fCl p0 p1 n dl (ar 12) (ar 11) (ar 7) dy ∧ ¬ fCl p0 p1 n dl (ar 12) (ar 11) (ar 7) dy = 0 ∧ uX = hX))) (hv_Bq G (hv_j hX (hv_out G oa v0)) sz) (hv_A (hv_j hX (hv_out G oa v0)) sz)) (XC := fun sz => hv_X G (hv_j hX (hv_out G oa v0)) sz (fun _ _ => False)) (by decide) rfl rfl (Nat.le_of_ble_eq_true rfl) ?_
  intro p e s m below meth c hr ht C I ls hl
  have hl : lv_has ls 5 [(0, .ref (ad 0 0)), (1, .int p0), (2, .int p1), (3, .ref oa)] := hl
  refine lv_aload_n C.1 C.2.1 dL_claim_0 rfl (lv_at hl 3 rfl) ?_
  refine lv_iconst (v := 0) C.1 C.2.1 dL_claim_1 (by decide) ?_
  refine lv_aload_n C.1 C.2.1 dL_claim_2 rfl (lv_at hl 0 rfl) ?_
  refine lv_iload_n C.1 C.2.1 dL_claim_3 rfl (lv_at hl 1 rfl) ?_
  refine lv_iload_n C.1 C.2.1 dL_claim_4 rfl (lv_at hl 2 rfl) ?_
  refine hv_fxki I hdis (vx_runV (As := [.int p0, .int p1]) (rest := [.int 0, .ref oa]) C.fix (c_X4_claim l hlt G hX _ hD p0 p1 hn hdl hd hpo) (cwV 2 C.2.2.2.2.1 gL_claim_X4_claim rfl rfl rfl (by decide +kernel) ⟨Nat.le_of_ble_eq_true rfl, Nat.le_of_ble_eq_true rfl⟩) (hv_preV C I.left (isD_0 hD) (r := (RX4, TX4, 6)) rfl) rfl rfl hl.1 rfl (lv_room (Nat.le_of_ble_eq_true rfl)) dL_claim_5 ⟨Nat.le_of_ble_eq_true rfl, Nat.le_of_ble_eq_true rfl⟩) (fun E ce q9 u H locs hpx du I hq9 hv9 hcl9 => ?_) (fun r u H locs hp du I => ?_)
  · obtain ⟨e1, hE⟩ := hpx
    have e1 := e1.symm
    subst e1
    rcases hE with ⟨eF, rfl⟩ | ⟨eF, rfl⟩
    · refine vx_catch (name := "java/lang/IndexOutOfBoundsException") C.2.2.2.1 [] ⟨0, 10, 13, 24⟩ [⟨0, 10, 17, 19⟩] (ht.trans rfl) (fun z hz => by cases hz) (by decide) (by decide) (C.ts (by decide +kernel)) (va_Nw.use rfl (C.nw (by decide +kernel))) hq9 hv9 hcl9 ?_
      refine lv_astore (lv' := [(4, .ref q9), (0, .ref (ad 0 0)), (1, .int p0), (2, .int p1), (3, .ref oa)]) C.1 C.2.1 dL_claim_13 hl (by decide) rfl (fun ls hl => ?_)
      refine lv_iconst (v := 1) C.1 C.2.1 dL_claim_15 (by decide) ?_
      exact vx_ret (hv_iret (v := 1) C hr I ⟨hX, v0, rfl, du, Or.inr ⟨eF.symm, fun z => absurd (eF.symm.trans z) (by decide), rfl⟩⟩ dL_claim_16 (Nat.le_of_ble_eq_true rfl) (Nat.le_of_ble_eq_true rfl))
    · refine vx_catch (name := "java/lang/IllegalStateException") C.2.2.2.1 [⟨0, 10, 13, 24⟩] ⟨0, 10, 17, 19⟩ [] (ht.trans rfl) (hv_p1 (Or.inr ⟨by decide, "java/lang/IndexOutOfBoundsException", C.ts (by decide +kernel), C.E.2.2.2.2.2.2.2 ("java/lang/IllegalStateException", "java/lang/IndexOutOfBoundsException") (by decide)⟩)) (by decide) (by decide) (C.ts (by decide +kernel)) (va_Nw.use rfl (C.nw (by decide +kernel))) hq9 hv9 hcl9 ?_
      refine lv_astore (lv' := [(4, .ref q9), (0, .ref (ad 0 0)), (1, .int p0), (2, .int p1), (3, .ref oa)]) C.1 C.2.1 dL_claim_17 hl (by decide) rfl (fun ls hl => ?_)
      refine lv_iconst (v := 2) C.1 C.2.1 dL_claim_19 (by decide) ?_
      exact vx_ret (hv_iret (v := 2) C hr I ⟨hX, v0, rfl, du, Or.inr ⟨eF.symm, fun z => absurd (eF.symm.trans z) (by decide), rfl⟩⟩ dL_claim_20 (Nat.le_of_ble_eq_true rfl) (Nat.le_of_ble_eq_true rfl))
  · refine lv_i2l C.1 C.2.1 dL_claim_8 rfl ?_
    refine hv_last C I (hv_j_b du (hv_out_eq G oa v0)) (i := 0) (show vp_in (nI 0) 1 from vp_in_nI (by decide) (by decide)) dL_claim_9 (fun H locs I => ?_)
    have du2 : hv_dis u (hv_out G oa r.toInt64) := by rw [← hv_out_st G oa v0]; exact hv_dis_up du (hv_out_eq G oa v0)
    have I : hv_I G (hv_j hX (hv_out G oa v0)) s (hv_j u (hv_out G oa r.toInt64)) H locs := by rw [← hv_out_st G oa v0 r.toInt64, ← hv_j_up du (hv_out_eq G oa v0)]; exact I
    refine lv_goto (tgt := 21) C.1 C.2.1 dL_claim_10 (by decide) ?_
    refine lv_iconst (v := 0) C.1 C.2.1 dL_claim_21 (by decide) ?_
    exact vx_ret (hv_iret (v := 0) C hr I ⟨u, r.toInt64, rfl, du2, Or.inl ⟨rfl, r, rfl, hp⟩⟩ dL_claim_22 (Nat.le_of_ble_eq_true rfl) (Nat.le_of_ble_eq_true rfl))
