/-! ===== one step of the law ===== -/
set_option maxHeartbeats 4000000 in
set_option maxRecDepth 100000 in
theorem c_L_step (l : Launch) (G : hv_G) (h : hv) (sz : Nat)  (hlt : l.stackTraces = false) {aa : Nat → Nat} {ad : Nat → Nat → Nat} {n d t : Nat} {rf : Int64} {ar : AR} {fm : Nat → Int32} {po : PO} {hF : Nat → Int64} {tF pF cF : Nat → Int32} {zF : Nat → Int64} {kd ld sh fo si g la : Nat → Nat} (hD : isD G (cut aa h) ad n d d (nI t) rf ar fm po) (hL : LV G aa h hF tF pF cF zF) (hN : Nm n d t ar po rf hF tF pF cF zF kd ld sh fo si g la) {w x y : Nat} (hw : w < 20) (hx : x < 2 ^ 30) (hy : y < 2 ^ 30) : hv_Mi l yL_step wsL_step 15 560 750 3500 G h sz [.ref (ad 0 0), .int (nI w), .int (nI x), .int (nI y), .ref (aa 0), .ref (aa 1), .ref (aa 2), .ref (aa 3), .ref (aa 4)] (fun r u => r = 1 ∧ Inv G aa (ad 0 0) u) := by
  obtain ⟨fH, fT, fP, fC, fZ⟩ := id hL
  obtain ⟨⟨bn, bd, bt⟩, ⟨ec0, ec1, ec2, ez0⟩, hK, hS, hR, hZ, hQ, hP⟩ := id hN
  refine hv_enter (y := yL_step) (avs := [.ref (ad 0 0), .int (nI w), .int (nI x), .int (nI y), .ref (aa 0), .ref (aa 1), .ref (aa 2), .ref (aa 3), .ref (aa 4)]) (maxL := 12) (Qf := fun sz => va_Qi (fun r u => r = 1 ∧ Inv G aa (ad 0 0) u) (hv_Bq G h sz) (hv_A h sz)) (by decide) rfl rfl (Nat.le_of_ble_eq_true rfl) ?_
  intro p e s m below meth c hr hnm C I ls hl
  have hl : lv_has ls 12 [(0, .ref (ad 0 0)), (1, .int (nI w)), (2, .int (nI x)), (3, .int (nI y)), (4, .ref (aa 0)), (5, .ref (aa 1)), (6, .ref (aa 2)), (7, .ref (aa 3)), (8, .ref (aa 4))] := hl
  refine lv_iload_n C.1 C.2.1 dL_step_0 rfl (lv_at hl 1 rfl) ?_
  refine lv_iconst (v := 2) C.1 C.2.1 dL_step_1 (by decide) ?_
  refine lv_icmp_lt (tgt := 12) C.1 C.2.1 dL_step_2 (by decide) (fun c2 => ?_) (fun c2 => ?_)
  · have c2 : w < 2 := (nI_ltI (a := w) (b := 2) (by omega) (by omega)).mp c2
    refine lv_aload_n C.1 C.2.1 dL_step_12 rfl (lv_at hl 0 rfl) ?_
    refine lv_iload_n C.1 C.2.1 dL_step_13 rfl (lv_at hl 2 rfl) ?_
    refine lv_iload_n C.1 C.2.1 dL_step_14 rfl (lv_at hl 3 rfl) ?_
    refine lv_aload C.1 C.2.1 dL_step_15 (lv_at hl 4 rfl) ?_
    refine lv_aload C.1 C.2.1 dL_step_17 (lv_at hl 7 rfl) ?_
    refine hv_ki I (va_runS (As := [.ref (ad 0 0), .int (nI x), .int (nI y), .ref (aa 0), .ref (aa 3)]) (rest := []) C.fix (c_L_adds l G h _ hlt hD ⟨fH, fT, fP, fC, fZ⟩ hN (by omega) (by omega)) (va_cwS 5 C.2.2.2.2.1 gL_step_L_adds rfl rfl rfl (by decide +kernel) ⟨Nat.le_of_ble_eq_true rfl, Nat.le_of_ble_eq_true rfl⟩) (hv_preS C I) rfl rfl hl.1 rfl (lv_room (Nat.le_of_ble_eq_true rfl)) dL_step_19 ⟨Nat.le_of_ble_eq_true rfl, Nat.le_of_ble_eq_true rfl⟩) (fun ru_1 u_1 H locs pu_1 I => ?_)
    obtain ⟨e2, hI⟩ := pu_1; have e2 := e2.symm; subst e2
    exact hv_zret (v := 1) C hr I rfl (⟨rfl, hI⟩) dL_step_22 (Nat.le_of_ble_eq_true rfl) (Nat.le_of_ble_eq_true rfl)
  · have c2 : ¬ (w < 2) := fun z => c2 ((nI_ltI (a := w) (b := 2) (by omega) (by omega)).mpr z)
    refine lv_aload C.1 C.2.1 dL_step_5 (lv_at hl 7 rfl) ?_
    refine lv_iconst (v := 1) C.1 C.2.1 dL_step_7 (by decide) ?_
    refine hv_ialdN (i := 1) C I fC (by decide) (by decide) dL_step_8 ?_
    refine lv_topi (fun z_2 ez_2 => ?_)
    have ez_2 := ez_2.trans (show _ = nI n by exact ec1)
    subst ez_2
    refine lv_if_ne (tgt := 23) C.1 C.2.1 dL_step_9 (by decide) (fun c9 => ?_) (fun c9 => ?_)
    · have c9 : ¬ (n = 0) := fun z => c9 ((nI_eq (a := n) (b := 0) (by omega) (by omega)).mpr z)
      refine lv_iload_n C.1 C.2.1 dL_step_23 rfl (lv_at hl 2 rfl) ?_
      refine lv_aload C.1 C.2.1 dL_step_24 (lv_at hl 7 rfl) ?_
      refine lv_iconst (v := 1) C.1 C.2.1 dL_step_26 (by decide) ?_
      refine hv_ialdN (i := 1) C I fC (by decide) (by decide) dL_step_27 ?_
      refine lv_topi (fun z_3 ez_3 => ?_)
      have ez_3 := ez_3.trans (show _ = nI n by exact ec1)
      subst ez_3
      refine lv_irem C.1 C.2.1 dL_step_28 (nI_ne0 (by omega) (by omega)) ?_
      refine lv_topi (fun z_4 ez_4 => ?_)
      have ez_4 := ez_4.trans (show _ = nI (x % n) by exact pk_rem (a := x) (d := n) (by omega) (by omega) (by omega))
      subst ez_4
      obtain ⟨k, hk9⟩ : ∃ z, z = x % n := ⟨_, rfl⟩
      have hk : k < n := by rw [hk9]; exact Nat.mod_lt _ (by omega)
      refine lv_topi (fun z_5 ez_5 => ?_)
      have ez_5 := ez_5.trans (show _ = nI k by rw [hk9])
      subst ez_5
      refine lv_istore (lv' := [(9, .int (nI k)), (0, .ref (ad 0 0)), (1, .int (nI w)), (2, .int (nI x)), (3, .int (nI y)), (4, .ref (aa 0)), (5, .ref (aa 1)), (6, .ref (aa 2)), (7, .ref (aa 3)), (8, .ref (aa 4))]) C.1 C.2.1 dL_step_29 hl (by decide) rfl (fun ls hl => ?_)
      refine lv_iload_n C.1 C.2.1 dL_step_31 rfl (lv_at hl 2 rfl) ?_
      refine lv_iconst (v := 5) C.1 C.2.1 dL_step_32 (by decide) ?_
      refine lv_icmp_ge (tgt := 83) C.1 C.2.1 dL_step_33 (by decide) (fun c33 => ?_) (fun c33 => ?_)
      · have c33 : 5 ≤ w := (nI_leI (a := 5) (b := w) (by omega) (by omega)).mp c33
        refine lv_iload_n C.1 C.2.1 dL_step_83 rfl (lv_at hl 2 rfl) ?_
        refine lv_iconst (v := 5) C.1 C.2.1 dL_step_84 (by decide) ?_
        refine lv_icmp_ne (tgt := 163) C.1 C.2.1 dL_step_85 (by decide) (fun c85 => ?_) (fun c85 => ?_)
        · have c85 : ¬ (w = 5) := fun z => c85 ((nI_eq (a := w) (b := 5) (by omega) (by omega)).mpr z)
          refine lv_iload_n C.1 C.2.1 dL_step_163 rfl (lv_at hl 2 rfl) ?_
          refine lv_bipush (v := 8) C.1 C.2.1 dL_step_164 (by decide) ?_
          refine lv_icmp_ge (tgt := 217) C.1 C.2.1 dL_step_166 (by decide) (fun c166 => ?_) (fun c166 => ?_)
          · have c166 : 8 ≤ w := (nI_leI (a := 8) (b := w) (by omega) (by omega)).mp c166
            refine lv_iload_n C.1 C.2.1 dL_step_217 rfl (lv_at hl 2 rfl) ?_
            refine lv_bipush (v := 8) C.1 C.2.1 dL_step_218 (by decide) ?_
            refine lv_icmp_ne (tgt := 234) C.1 C.2.1 dL_step_220 (by decide) (fun c220 => ?_) (fun c220 => ?_)
            · have c220 : ¬ (w = 8) := fun z => c220 ((nI_eq (a := w) (b := 8) (by omega) (by omega)).mpr z)
              refine lv_iload_n C.1 C.2.1 dL_step_234 rfl (lv_at hl 2 rfl) ?_
              refine lv_bipush (v := 11) C.1 C.2.1 dL_step_235 (by decide) ?_
              refine lv_icmp_ge (tgt := 319) C.1 C.2.1 dL_step_237 (by decide) (fun c237 => ?_) (fun c237 => ?_)
              · have c237 : 11 ≤ w := (nI_leI (a := 11) (b := w) (by omega) (by omega)).mp c237
                refine lv_iload_n C.1 C.2.1 dL_step_319 rfl (lv_at hl 2 rfl) ?_
                refine lv_bipush (v := 13) C.1 C.2.1 dL_step_320 (by decide) ?_
                refine lv_icmp_lt (tgt := 332) C.1 C.2.1 dL_step_322 (by decide) (fun c322 => ?_) (fun c322 => ?_)
                · have c322 : w < 13 := (nI_ltI (a := w) (b := 13) (by omega) (by omega)).mp c322
                  refine lv_aload C.1 C.2.1 dL_step_332 (lv_at hl 8 rfl) ?_
                  refine lv_iconst (v := 2) C.1 C.2.1 dL_step_334 (by decide) ?_
                  refine hv_ialdN (i := 2) C I fC (by decide) (by decide) dL_step_335 ?_
                  refine lv_topi (fun z_6 ez_6 => ?_)
                  have ez_6 := ez_6.trans (show _ = nI d by exact ec2)
                  subst ez_6
                  refine lv_bipush (v := 12) C.1 C.2.1 dL_step_336 (by decide) ?_
                  refine lv_icmp_ne (tgt := 343) C.1 C.2.1 dL_step_338 (by decide) (fun c338 => ?_) (fun c338 => ?_)
                  · have c338 : ¬ (d = 12) := fun z => c338 ((nI_eq (a := d) (b := 12) (by omega) (by omega)).mpr z)
                    refine lv_aload C.1 C.2.1 dL_step_343 (lv_at hl 7 rfl) ?_
                    refine lv_aload C.1 C.2.1 dL_step_345 (lv_at hl 8 rfl) ?_
                    refine lv_iconst (v := 2) C.1 C.2.1 dL_step_347 (by decide) ?_
                    refine hv_ialdN (i := 2) C I fC (by decide) (by decide) dL_step_348 ?_
                    refine lv_topi (fun z_7 ez_7 => ?_)
                    have ez_7 := ez_7.trans (show _ = nI d by exact ec2)
                    subst ez_7
                    refine lv_aload C.1 C.2.1 dL_step_349 (lv_at hl 8 rfl) ?_
                    refine lv_iconst (v := 0) C.1 C.2.1 dL_step_351 (by decide) ?_
                    refine hv_ialdN (i := 0) C I fC (by decide) (by decide) dL_step_352 ?_
                    refine lv_topi (fun z_8 ez_8 => ?_)
                    have ez_8 := ez_8.trans (show _ = nI t by exact ec0)
                    subst ez_8
                    refine hv_iastN (i := d) C I fP (by omega) (by decide) dL_step_353 (fun H locs I => ?_)
                    obtain ⟨h_9, eh_9⟩ : ∃ z, z = hv_up h (aa 2) (.inl (G.2.1 0, 13, .inl (upd pF d (nI t)))) := ⟨_, rfl⟩
                    have I : hv_I G h s h_9 H locs := by rw [eh_9]; exact I
                    have hD : isD G (cut aa h_9) ad n d d (nI t) rf ar fm po := by rw [eh_9, cut_up (Or.inr (Or.inr (Or.inl rfl)))]; exact hD
                    have fH9 : h_9 (aa 0) = some (.inl (G.2.1 4, 20, .inr (.inl hF))) := by rw [eh_9, hv_up_ne (hv_neLen fH fP (by decide))]; exact fH
                    have fT9 : h_9 (aa 1) = some (.inl (G.2.1 0, 12, .inl tF)) := by rw [eh_9, hv_up_ne (hv_neLen fT fP (by decide))]; exact fT
                    have fP9 : h_9 (aa 2) = some (.inl (G.2.1 0, 13, .inl (upd pF d (nI t)))) := by rw [eh_9]; exact hv_up_eq
                    have fC9 : h_9 (aa 3) = some (.inl (G.2.1 0, 3, .inl cF)) := by rw [eh_9, hv_up_ne (hv_neLen fC fP (by decide))]; exact fC
                    have fZ9 : h_9 (aa 4) = some (.inl (G.2.1 4, 1, .inr (.inl zF))) := by rw [eh_9, hv_up_ne (hv_neLen fZ fP (by decide))]; exact fZ
                    have fH := fH9
                    have fT := fT9
                    have fP := fP9
                    have fC := fC9
                    have fZ := fZ9
                    refine lv_aload_n C.1 C.2.1 dL_step_354 rfl (lv_at hl 1 rfl) ?_
                    refine lv_iconst (v := 1) C.1 C.2.1 dL_step_355 (by decide) ?_
                    refine lv_iload_n C.1 C.2.1 dL_step_356 rfl (lv_at hl 4 rfl) ?_
                    refine lv_iload_n C.1 C.2.1 dL_step_357 rfl (lv_at hl 3 rfl) ?_
                    refine lv_iconst (v := 3) C.1 C.2.1 dL_step_358 (by decide) ?_
                    refine lv_irem C.1 C.2.1 dL_step_359 (by decide) ?_
                    refine lv_topi (fun z_10 ez_10 => ?_)
                    have ez_10 := ez_10.trans (show _ = nI (x % 3) by exact pk_rem (a := x) (d := 3) (by omega) (by decide) (by decide))
                    subst ez_10
                    refine lv_if_ne (tgt := 369) C.1 C.2.1 dL_step_360 (by decide) (fun c360 => ?_) (fun c360 => ?_)
                    · have c360 : ¬ (x % 3 = 0) := fun z => c360 ((nI_eq (a := x % 3) (b := 0) (by omega) (by omega)).mpr z)
                      refine lv_bipush (v := 30) C.1 C.2.1 dL_step_369 (by decide) ?_
                      refine lv_irem C.1 C.2.1 dL_step_371 (by decide) ?_
                      refine lv_topi (fun z_11 ez_11 => ?_)
                      have ez_11 := ez_11.trans (show _ = nI (y % 30) by exact pk_rem (a := y) (d := 30) (by omega) (by decide) (by decide))
                      subst ez_11
                      refine lv_iadd C.1 C.2.1 dL_step_372 ?_
                      refine lv_topi (fun z_12 ez_12 => ?_)
                      have ez_12 := ez_12.trans (show _ = nI (1 + (y % 30)) by exact nI_add 1 (y % 30))
                      subst ez_12
                      refine lv_aload C.1 C.2.1 dL_step_373 (lv_at hl 5 rfl) ?_
                      refine lv_aload C.1 C.2.1 dL_step_375 (lv_at hl 6 rfl) ?_
                      refine lv_aload C.1 C.2.1 dL_step_377 (lv_at hl 8 rfl) ?_
                      refine hv_ki I (va_runS (As := [.ref (ad 0 0), .int (nI (1 + (y % 30))), .ref (aa 0), .ref (aa 1), .ref (aa 3)]) (rest := []) C.fix (c_L_pays l G h_9 _ hlt hD ⟨fH, fT, fP, fC, fZ⟩ (hN.pday (nI t)) (ce := 1 + (y % 30)) (by omega) (by omega) (by omega) upd_eq) (va_cwS 5 C.2.2.2.2.1 gL_step_L_pays rfl rfl rfl (by decide +kernel) ⟨Nat.le_of_ble_eq_true rfl, Nat.le_of_ble_eq_true rfl⟩) (hv_preS C I) rfl rfl hl.1 rfl (lv_room (Nat.le_of_ble_eq_true rfl)) dL_step_379 ⟨Nat.le_of_ble_eq_true rfl, Nat.le_of_ble_eq_true rfl⟩) (fun ru_13 u_13 H locs pu_13 I => ?_)
                      obtain ⟨e2, hI⟩ := pu_13; have e2 := e2.symm; subst e2
                      exact hv_zret (v := 1) C hr I rfl (⟨rfl, hI⟩) dL_step_382 (Nat.le_of_ble_eq_true rfl) (Nat.le_of_ble_eq_true rfl)
                    · have c360 : x % 3 = 0 := (nI_eq (a := x % 3) (b := 0) (by omega) (by omega)).mp c360
                      refine lv_sipush (v := 1000) C.1 C.2.1 dL_step_363 (by decide) ?_
                      refine lv_goto (tgt := 371) C.1 C.2.1 dL_step_366 (by decide) ?_
                      refine lv_irem C.1 C.2.1 dL_step_371 (by decide) ?_
                      refine lv_topi (fun z_14 ez_14 => ?_)
                      have ez_14 := ez_14.trans (show _ = nI (y % 1000) by exact pk_rem (a := y) (d := 1000) (by omega) (by decide) (by decide))
                      subst ez_14
                      refine lv_iadd C.1 C.2.1 dL_step_372 ?_
                      refine lv_topi (fun z_15 ez_15 => ?_)
                      have ez_15 := ez_15.trans (show _ = nI (1 + (y % 1000)) by exact nI_add 1 (y % 1000))
                      subst ez_15
                      refine lv_aload C.1 C.2.1 dL_step_373 (lv_at hl 5 rfl) ?_
                      refine lv_aload C.1 C.2.1 dL_step_375 (lv_at hl 6 rfl) ?_
                      refine lv_aload C.1 C.2.1 dL_step_377 (lv_at hl 8 rfl) ?_
                      refine hv_ki I (va_runS (As := [.ref (ad 0 0), .int (nI (1 + (y % 1000))), .ref (aa 0), .ref (aa 1), .ref (aa 3)]) (rest := []) C.fix (c_L_pays l G h_9 _ hlt hD ⟨fH, fT, fP, fC, fZ⟩ (hN.pday (nI t)) (ce := 1 + (y % 1000)) (by omega) (by omega) (by omega) upd_eq) (va_cwS 5 C.2.2.2.2.1 gL_step_L_pays rfl rfl rfl (by decide +kernel) ⟨Nat.le_of_ble_eq_true rfl, Nat.le_of_ble_eq_true rfl⟩) (hv_preS C I) rfl rfl hl.1 rfl (lv_room (Nat.le_of_ble_eq_true rfl)) dL_step_379 ⟨Nat.le_of_ble_eq_true rfl, Nat.le_of_ble_eq_true rfl⟩) (fun ru_16 u_16 H locs pu_16 I => ?_)
                      obtain ⟨e2, hI⟩ := pu_16; have e2 := e2.symm; subst e2
                      exact hv_zret (v := 1) C hr I rfl (⟨rfl, hI⟩) dL_step_382 (Nat.le_of_ble_eq_true rfl) (Nat.le_of_ble_eq_true rfl)
                  · have c338 : d = 12 := (nI_eq (a := d) (b := 12) (by omega) (by omega)).mp c338
                    refine lv_iconst (v := 1) C.1 C.2.1 dL_step_341 (by decide) ?_
                    exact hv_zret (v := 1) C hr I rfl (⟨rfl, inv_mk hD hN ⟨fH, fT, fP, fC, fZ⟩⟩) dL_step_342 (Nat.le_of_ble_eq_true rfl) (Nat.le_of_ble_eq_true rfl)
                · have c322 : ¬ (w < 13) := fun z => c322 ((nI_ltI (a := w) (b := 13) (by omega) (by omega)).mpr z)
                  refine lv_aload C.1 C.2.1 dL_step_325 (lv_at hl 8 rfl) ?_
                  refine lv_iconst (v := 2) C.1 C.2.1 dL_step_327 (by decide) ?_
                  refine hv_ialdN (i := 2) C I fC (by decide) (by decide) dL_step_328 ?_
                  refine lv_topi (fun z_17 ez_17 => ?_)
                  have ez_17 := ez_17.trans (show _ = nI d by exact ec2)
                  subst ez_17
                  refine lv_if_ne (tgt := 383) C.1 C.2.1 dL_step_329 (by decide) (fun c329 => ?_) (fun c329 => ?_)
                  · have c329 : ¬ (d = 0) := fun z => c329 ((nI_eq (a := d) (b := 0) (by omega) (by omega)).mpr z)
                    refine lv_aload_n C.1 C.2.1 dL_step_383 rfl (lv_at hl 1 rfl) ?_
                    refine lv_iload_n C.1 C.2.1 dL_step_384 rfl (lv_at hl 2 rfl) ?_
                    refine lv_iconst (v := 2) C.1 C.2.1 dL_step_385 (by decide) ?_
                    refine lv_irem C.1 C.2.1 dL_step_386 (by decide) ?_
                    refine lv_topi (fun z_18 ez_18 => ?_)
                    have ez_18 := ez_18.trans (show _ = nI (w % 2) by exact pk_rem (a := w) (d := 2) (by omega) (by decide) (by decide))
                    subst ez_18
                    rcases Nat.mod_two_eq_zero_or_one w with m2 | m2
                    · refine lv_topi (fun z_19 ez_19 => ?_)
                      have ez_19 := ez_19.trans (show _ = 0 by rw [m2]; rfl)
                      subst ez_19
                      refine lv_iload_n C.1 C.2.1 dL_step_387 rfl (lv_at hl 3 rfl) ?_
                      refine lv_bipush (v := 20) C.1 C.2.1 dL_step_388 (by decide) ?_
                      refine lv_idiv C.1 C.2.1 dL_step_390 (by decide) ?_
                      refine lv_topi (fun z_20 ez_20 => ?_)
                      have ez_20 := ez_20.trans (show _ = nI (x / 20) by exact pk_div (a := x) (d := 20) (by omega) (by decide) (by decide))
                      subst ez_20
                      refine lv_iconst (v := 4) C.1 C.2.1 dL_step_391 (by decide) ?_
                      refine lv_irem C.1 C.2.1 dL_step_392 (by decide) ?_
                      refine lv_topi (fun z_21 ez_21 => ?_)
                      have ez_21 := ez_21.trans (show _ = nI ((x / 20) % 4) by exact pk_rem (a := x / 20) (d := 4) (by omega) (by decide) (by decide))
                      subst ez_21
                      refine lv_if_le (tgt := 405) C.1 C.2.1 dL_step_393 (by decide) (fun c393 => ?_) (fun c393 => ?_)
                      · have c393 : (x / 20) % 4 ≤ 0 := (nI_leI (a := (x / 20) % 4) (b := 0) (by omega) (by omega)).mp c393
                        refine lv_iload_n C.1 C.2.1 dL_step_405 rfl (lv_at hl 4 rfl) ?_
                        refine lv_aload C.1 C.2.1 dL_step_406 (lv_at hl 8 rfl) ?_
                        refine lv_iconst (v := 2) C.1 C.2.1 dL_step_408 (by decide) ?_
                        refine hv_ialdN (i := 2) C I fC (by decide) (by decide) dL_step_409 ?_
                        refine lv_topi (fun z_22 ez_22 => ?_)
                        have ez_22 := ez_22.trans (show _ = nI d by exact ec2)
                        subst ez_22
                        refine lv_irem C.1 C.2.1 dL_step_410 (nI_ne0 (by omega) (by omega)) ?_
                        refine lv_topi (fun z_23 ez_23 => ?_)
                        have ez_23 := ez_23.trans (show _ = nI (y % d) by exact pk_rem (a := y) (d := d) (by omega) (by omega) (by omega))
                        subst ez_23
                        obtain ⟨dv, hdv⟩ : ∃ z, z = y % d := ⟨_, rfl⟩
                        have hdd : dv < d := by rw [hdv]; exact Nat.mod_lt _ (by omega)
                        refine lv_topi (fun z_24 ez_24 => ?_)
                        have ez_24 := ez_24.trans (show _ = nI dv by rw [hdv])
                        subst ez_24
                        refine lv_iload C.1 C.2.1 dL_step_411 (lv_at hl 0 rfl) ?_
                        refine lv_aload C.1 C.2.1 dL_step_413 (lv_at hl 5 rfl) ?_
                        refine lv_aload C.1 C.2.1 dL_step_415 (lv_at hl 7 rfl) ?_
                        refine lv_aload C.1 C.2.1 dL_step_417 (lv_at hl 8 rfl) ?_
                        refine lv_aload C.1 C.2.1 dL_step_419 (lv_at hl 9 rfl) ?_
                        refine hv_ki I (va_runS (As := [.ref (ad 0 0), .int 0, .int (nI dv), .int (nI k), .ref (aa 0), .ref (aa 2), .ref (aa 3), .ref (aa 4)]) (rest := []) C.fix (c_L_refunds0 l G h _ hlt hD ⟨fH, fT, fP, fC, fZ⟩ hN (D := dv) hdd hk) (va_cwS 8 C.2.2.2.2.1 gL_step_L_refunds rfl rfl rfl (by decide +kernel) ⟨Nat.le_of_ble_eq_true rfl, Nat.le_of_ble_eq_true rfl⟩) (hv_preS C I) rfl rfl hl.1 rfl (lv_room (Nat.le_of_ble_eq_true rfl)) dL_step_421 ⟨Nat.le_of_ble_eq_true rfl, Nat.le_of_ble_eq_true rfl⟩) (fun ru_25 u_25 H locs pu_25 I => ?_)
                        obtain ⟨e2, hI⟩ := pu_25; have e2 := e2.symm; subst e2
                        exact hv_zret (v := 1) C hr I rfl (⟨rfl, hI⟩) dL_step_424 (Nat.le_of_ble_eq_true rfl) (Nat.le_of_ble_eq_true rfl)
                      · have c393 : ¬ ((x / 20) % 4 ≤ 0) := fun z => c393 ((nI_leI (a := (x / 20) % 4) (b := 0) (by omega) (by omega)).mpr z)
                        refine lv_aload C.1 C.2.1 dL_step_396 (lv_at hl 8 rfl) ?_
                        refine lv_iconst (v := 2) C.1 C.2.1 dL_step_398 (by decide) ?_
                        refine hv_ialdN (i := 2) C I fC (by decide) (by decide) dL_step_399 ?_
                        refine lv_topi (fun z_26 ez_26 => ?_)
                        have ez_26 := ez_26.trans (show _ = nI d by exact ec2)
                        subst ez_26
                        refine lv_iconst (v := 1) C.1 C.2.1 dL_step_400 (by decide) ?_
                        refine lv_isub C.1 C.2.1 dL_step_401 ?_
                        refine lv_topi (fun z_27 ez_27 => ?_)
                        have ez_27 := ez_27.trans (show _ = nI (d - 1) by exact pk_sub (a := d) (b := 1) (by omega))
                        subst ez_27
                        refine lv_goto (tgt := 411) C.1 C.2.1 dL_step_402 (by decide) ?_
                        obtain ⟨dv, hdv⟩ : ∃ z, z = d - 1 := ⟨_, rfl⟩
                        have hdd : dv < d := by omega
                        refine lv_topi (fun z_28 ez_28 => ?_)
                        have ez_28 := ez_28.trans (show _ = nI dv by rw [hdv])
                        subst ez_28
                        refine lv_iload C.1 C.2.1 dL_step_411 (lv_at hl 0 rfl) ?_
                        refine lv_aload C.1 C.2.1 dL_step_413 (lv_at hl 5 rfl) ?_
                        refine lv_aload C.1 C.2.1 dL_step_415 (lv_at hl 7 rfl) ?_
                        refine lv_aload C.1 C.2.1 dL_step_417 (lv_at hl 8 rfl) ?_
                        refine lv_aload C.1 C.2.1 dL_step_419 (lv_at hl 9 rfl) ?_
                        refine hv_ki I (va_runS (As := [.ref (ad 0 0), .int 0, .int (nI dv), .int (nI k), .ref (aa 0), .ref (aa 2), .ref (aa 3), .ref (aa 4)]) (rest := []) C.fix (c_L_refunds0 l G h _ hlt hD ⟨fH, fT, fP, fC, fZ⟩ hN (D := dv) hdd hk) (va_cwS 8 C.2.2.2.2.1 gL_step_L_refunds rfl rfl rfl (by decide +kernel) ⟨Nat.le_of_ble_eq_true rfl, Nat.le_of_ble_eq_true rfl⟩) (hv_preS C I) rfl rfl hl.1 rfl (lv_room (Nat.le_of_ble_eq_true rfl)) dL_step_421 ⟨Nat.le_of_ble_eq_true rfl, Nat.le_of_ble_eq_true rfl⟩) (fun ru_29 u_29 H locs pu_29 I => ?_)
                        obtain ⟨e2, hI⟩ := pu_29; have e2 := e2.symm; subst e2
                        exact hv_zret (v := 1) C hr I rfl (⟨rfl, hI⟩) dL_step_424 (Nat.le_of_ble_eq_true rfl) (Nat.le_of_ble_eq_true rfl)
                    · refine lv_topi (fun z_30 ez_30 => ?_)
                      have ez_30 := ez_30.trans (show _ = 1 by rw [m2]; rfl)
                      subst ez_30
                      refine lv_iload_n C.1 C.2.1 dL_step_387 rfl (lv_at hl 3 rfl) ?_
                      refine lv_bipush (v := 20) C.1 C.2.1 dL_step_388 (by decide) ?_
                      refine lv_idiv C.1 C.2.1 dL_step_390 (by decide) ?_
                      refine lv_topi (fun z_31 ez_31 => ?_)
                      have ez_31 := ez_31.trans (show _ = nI (x / 20) by exact pk_div (a := x) (d := 20) (by omega) (by decide) (by decide))
                      subst ez_31
                      refine lv_iconst (v := 4) C.1 C.2.1 dL_step_391 (by decide) ?_
                      refine lv_irem C.1 C.2.1 dL_step_392 (by decide) ?_
                      refine lv_topi (fun z_32 ez_32 => ?_)
                      have ez_32 := ez_32.trans (show _ = nI ((x / 20) % 4) by exact pk_rem (a := x / 20) (d := 4) (by omega) (by decide) (by decide))
                      subst ez_32
                      refine lv_if_le (tgt := 405) C.1 C.2.1 dL_step_393 (by decide) (fun c393 => ?_) (fun c393 => ?_)
                      · have c393 : (x / 20) % 4 ≤ 0 := (nI_leI (a := (x / 20) % 4) (b := 0) (by omega) (by omega)).mp c393
                        refine lv_iload_n C.1 C.2.1 dL_step_405 rfl (lv_at hl 4 rfl) ?_
                        refine lv_aload C.1 C.2.1 dL_step_406 (lv_at hl 8 rfl) ?_
                        refine lv_iconst (v := 2) C.1 C.2.1 dL_step_408 (by decide) ?_
                        refine hv_ialdN (i := 2) C I fC (by decide) (by decide) dL_step_409 ?_
                        refine lv_topi (fun z_33 ez_33 => ?_)
                        have ez_33 := ez_33.trans (show _ = nI d by exact ec2)
                        subst ez_33
                        refine lv_irem C.1 C.2.1 dL_step_410 (nI_ne0 (by omega) (by omega)) ?_
                        refine lv_topi (fun z_34 ez_34 => ?_)
                        have ez_34 := ez_34.trans (show _ = nI (y % d) by exact pk_rem (a := y) (d := d) (by omega) (by omega) (by omega))
                        subst ez_34
                        obtain ⟨dv, hdv⟩ : ∃ z, z = y % d := ⟨_, rfl⟩
                        have hdd : dv < d := by rw [hdv]; exact Nat.mod_lt _ (by omega)
                        refine lv_topi (fun z_35 ez_35 => ?_)
                        have ez_35 := ez_35.trans (show _ = nI dv by rw [hdv])
                        subst ez_35
                        refine lv_iload C.1 C.2.1 dL_step_411 (lv_at hl 0 rfl) ?_
                        refine lv_aload C.1 C.2.1 dL_step_413 (lv_at hl 5 rfl) ?_
                        refine lv_aload C.1 C.2.1 dL_step_415 (lv_at hl 7 rfl) ?_
                        refine lv_aload C.1 C.2.1 dL_step_417 (lv_at hl 8 rfl) ?_
                        refine lv_aload C.1 C.2.1 dL_step_419 (lv_at hl 9 rfl) ?_
                        refine hv_ki I (va_runS (As := [.ref (ad 0 0), .int 1, .int (nI dv), .int (nI k), .ref (aa 0), .ref (aa 2), .ref (aa 3), .ref (aa 4)]) (rest := []) C.fix (c_L_refunds1 l G h _ hlt hD ⟨fH, fT, fP, fC, fZ⟩ hN (D := dv) hdd hk) (va_cwS 8 C.2.2.2.2.1 gL_step_L_refunds rfl rfl rfl (by decide +kernel) ⟨Nat.le_of_ble_eq_true rfl, Nat.le_of_ble_eq_true rfl⟩) (hv_preS C I) rfl rfl hl.1 rfl (lv_room (Nat.le_of_ble_eq_true rfl)) dL_step_421 ⟨Nat.le_of_ble_eq_true rfl, Nat.le_of_ble_eq_true rfl⟩) (fun ru_36 u_36 H locs pu_36 I => ?_)
                        obtain ⟨e2, hI⟩ := pu_36; have e2 := e2.symm; subst e2
                        exact hv_zret (v := 1) C hr I rfl (⟨rfl, hI⟩) dL_step_424 (Nat.le_of_ble_eq_true rfl) (Nat.le_of_ble_eq_true rfl)
                      · have c393 : ¬ ((x / 20) % 4 ≤ 0) := fun z => c393 ((nI_leI (a := (x / 20) % 4) (b := 0) (by omega) (by omega)).mpr z)
                        refine lv_aload C.1 C.2.1 dL_step_396 (lv_at hl 8 rfl) ?_
                        refine lv_iconst (v := 2) C.1 C.2.1 dL_step_398 (by decide) ?_
                        refine hv_ialdN (i := 2) C I fC (by decide) (by decide) dL_step_399 ?_
                        refine lv_topi (fun z_37 ez_37 => ?_)
                        have ez_37 := ez_37.trans (show _ = nI d by exact ec2)
                        subst ez_37
                        refine lv_iconst (v := 1) C.1 C.2.1 dL_step_400 (by decide) ?_
                        refine lv_isub C.1 C.2.1 dL_step_401 ?_
                        refine lv_topi (fun z_38 ez_38 => ?_)
                        have ez_38 := ez_38.trans (show _ = nI (d - 1) by exact pk_sub (a := d) (b := 1) (by omega))
                        subst ez_38
                        refine lv_goto (tgt := 411) C.1 C.2.1 dL_step_402 (by decide) ?_
                        obtain ⟨dv, hdv⟩ : ∃ z, z = d - 1 := ⟨_, rfl⟩
                        have hdd : dv < d := by omega
                        refine lv_topi (fun z_39 ez_39 => ?_)
                        have ez_39 := ez_39.trans (show _ = nI dv by rw [hdv])
                        subst ez_39
                        refine lv_iload C.1 C.2.1 dL_step_411 (lv_at hl 0 rfl) ?_
                        refine lv_aload C.1 C.2.1 dL_step_413 (lv_at hl 5 rfl) ?_
                        refine lv_aload C.1 C.2.1 dL_step_415 (lv_at hl 7 rfl) ?_
                        refine lv_aload C.1 C.2.1 dL_step_417 (lv_at hl 8 rfl) ?_
                        refine lv_aload C.1 C.2.1 dL_step_419 (lv_at hl 9 rfl) ?_
                        refine hv_ki I (va_runS (As := [.ref (ad 0 0), .int 1, .int (nI dv), .int (nI k), .ref (aa 0), .ref (aa 2), .ref (aa 3), .ref (aa 4)]) (rest := []) C.fix (c_L_refunds1 l G h _ hlt hD ⟨fH, fT, fP, fC, fZ⟩ hN (D := dv) hdd hk) (va_cwS 8 C.2.2.2.2.1 gL_step_L_refunds rfl rfl rfl (by decide +kernel) ⟨Nat.le_of_ble_eq_true rfl, Nat.le_of_ble_eq_true rfl⟩) (hv_preS C I) rfl rfl hl.1 rfl (lv_room (Nat.le_of_ble_eq_true rfl)) dL_step_421 ⟨Nat.le_of_ble_eq_true rfl, Nat.le_of_ble_eq_true rfl⟩) (fun ru_40 u_40 H locs pu_40 I => ?_)
                        obtain ⟨e2, hI⟩ := pu_40; have e2 := e2.symm; subst e2
                        exact hv_zret (v := 1) C hr I rfl (⟨rfl, hI⟩) dL_step_424 (Nat.le_of_ble_eq_true rfl) (Nat.le_of_ble_eq_true rfl)
                  · have c329 : d = 0 := (nI_eq (a := d) (b := 0) (by omega) (by omega)).mp c329
                    refine lv_aload C.1 C.2.1 dL_step_332 (lv_at hl 8 rfl) ?_
                    refine lv_iconst (v := 2) C.1 C.2.1 dL_step_334 (by decide) ?_
                    refine hv_ialdN (i := 2) C I fC (by decide) (by decide) dL_step_335 ?_
                    refine lv_topi (fun z_41 ez_41 => ?_)
                    have ez_41 := ez_41.trans (show _ = nI d by exact ec2)
                    subst ez_41
                    refine lv_bipush (v := 12) C.1 C.2.1 dL_step_336 (by decide) ?_
                    refine lv_icmp_ne (tgt := 343) C.1 C.2.1 dL_step_338 (by decide) (fun c338 => ?_) (fun c338 => ?_)
                    · have c338 : ¬ (d = 12) := fun z => c338 ((nI_eq (a := d) (b := 12) (by omega) (by omega)).mpr z)
                      refine lv_aload C.1 C.2.1 dL_step_343 (lv_at hl 7 rfl) ?_
                      refine lv_aload C.1 C.2.1 dL_step_345 (lv_at hl 8 rfl) ?_
                      refine lv_iconst (v := 2) C.1 C.2.1 dL_step_347 (by decide) ?_
                      refine hv_ialdN (i := 2) C I fC (by decide) (by decide) dL_step_348 ?_
                      refine lv_topi (fun z_42 ez_42 => ?_)
                      have ez_42 := ez_42.trans (show _ = nI d by exact ec2)
                      subst ez_42
                      refine lv_aload C.1 C.2.1 dL_step_349 (lv_at hl 8 rfl) ?_
                      refine lv_iconst (v := 0) C.1 C.2.1 dL_step_351 (by decide) ?_
                      refine hv_ialdN (i := 0) C I fC (by decide) (by decide) dL_step_352 ?_
                      refine lv_topi (fun z_43 ez_43 => ?_)
                      have ez_43 := ez_43.trans (show _ = nI t by exact ec0)
                      subst ez_43
                      refine hv_iastN (i := d) C I fP (by omega) (by decide) dL_step_353 (fun H locs I => ?_)
                      obtain ⟨h_44, eh_44⟩ : ∃ z, z = hv_up h (aa 2) (.inl (G.2.1 0, 13, .inl (upd pF d (nI t)))) := ⟨_, rfl⟩
                      have I : hv_I G h s h_44 H locs := by rw [eh_44]; exact I
                      have hD : isD G (cut aa h_44) ad n d d (nI t) rf ar fm po := by rw [eh_44, cut_up (Or.inr (Or.inr (Or.inl rfl)))]; exact hD
                      have fH9 : h_44 (aa 0) = some (.inl (G.2.1 4, 20, .inr (.inl hF))) := by rw [eh_44, hv_up_ne (hv_neLen fH fP (by decide))]; exact fH
                      have fT9 : h_44 (aa 1) = some (.inl (G.2.1 0, 12, .inl tF)) := by rw [eh_44, hv_up_ne (hv_neLen fT fP (by decide))]; exact fT
                      have fP9 : h_44 (aa 2) = some (.inl (G.2.1 0, 13, .inl (upd pF d (nI t)))) := by rw [eh_44]; exact hv_up_eq
                      have fC9 : h_44 (aa 3) = some (.inl (G.2.1 0, 3, .inl cF)) := by rw [eh_44, hv_up_ne (hv_neLen fC fP (by decide))]; exact fC
                      have fZ9 : h_44 (aa 4) = some (.inl (G.2.1 4, 1, .inr (.inl zF))) := by rw [eh_44, hv_up_ne (hv_neLen fZ fP (by decide))]; exact fZ
                      have fH := fH9
                      have fT := fT9
                      have fP := fP9
                      have fC := fC9
                      have fZ := fZ9
                      refine lv_aload_n C.1 C.2.1 dL_step_354 rfl (lv_at hl 1 rfl) ?_
                      refine lv_iconst (v := 1) C.1 C.2.1 dL_step_355 (by decide) ?_
                      refine lv_iload_n C.1 C.2.1 dL_step_356 rfl (lv_at hl 4 rfl) ?_
                      refine lv_iload_n C.1 C.2.1 dL_step_357 rfl (lv_at hl 3 rfl) ?_
                      refine lv_iconst (v := 3) C.1 C.2.1 dL_step_358 (by decide) ?_
                      refine lv_irem C.1 C.2.1 dL_step_359 (by decide) ?_
                      refine lv_topi (fun z_45 ez_45 => ?_)
                      have ez_45 := ez_45.trans (show _ = nI (x % 3) by exact pk_rem (a := x) (d := 3) (by omega) (by decide) (by decide))
                      subst ez_45
                      refine lv_if_ne (tgt := 369) C.1 C.2.1 dL_step_360 (by decide) (fun c360 => ?_) (fun c360 => ?_)
                      · have c360 : ¬ (x % 3 = 0) := fun z => c360 ((nI_eq (a := x % 3) (b := 0) (by omega) (by omega)).mpr z)
                        refine lv_bipush (v := 30) C.1 C.2.1 dL_step_369 (by decide) ?_
                        refine lv_irem C.1 C.2.1 dL_step_371 (by decide) ?_
                        refine lv_topi (fun z_46 ez_46 => ?_)
                        have ez_46 := ez_46.trans (show _ = nI (y % 30) by exact pk_rem (a := y) (d := 30) (by omega) (by decide) (by decide))
                        subst ez_46
                        refine lv_iadd C.1 C.2.1 dL_step_372 ?_
                        refine lv_topi (fun z_47 ez_47 => ?_)
                        have ez_47 := ez_47.trans (show _ = nI (1 + (y % 30)) by exact nI_add 1 (y % 30))
                        subst ez_47
                        refine lv_aload C.1 C.2.1 dL_step_373 (lv_at hl 5 rfl) ?_
                        refine lv_aload C.1 C.2.1 dL_step_375 (lv_at hl 6 rfl) ?_
                        refine lv_aload C.1 C.2.1 dL_step_377 (lv_at hl 8 rfl) ?_
                        refine hv_ki I (va_runS (As := [.ref (ad 0 0), .int (nI (1 + (y % 30))), .ref (aa 0), .ref (aa 1), .ref (aa 3)]) (rest := []) C.fix (c_L_pays l G h_44 _ hlt hD ⟨fH, fT, fP, fC, fZ⟩ (hN.pday (nI t)) (ce := 1 + (y % 30)) (by omega) (by omega) (by omega) upd_eq) (va_cwS 5 C.2.2.2.2.1 gL_step_L_pays rfl rfl rfl (by decide +kernel) ⟨Nat.le_of_ble_eq_true rfl, Nat.le_of_ble_eq_true rfl⟩) (hv_preS C I) rfl rfl hl.1 rfl (lv_room (Nat.le_of_ble_eq_true rfl)) dL_step_379 ⟨Nat.le_of_ble_eq_true rfl, Nat.le_of_ble_eq_true rfl⟩) (fun ru_48 u_48 H locs pu_48 I => ?_)
                        obtain ⟨e2, hI⟩ := pu_48; have e2 := e2.symm; subst e2
                        exact hv_zret (v := 1) C hr I rfl (⟨rfl, hI⟩) dL_step_382 (Nat.le_of_ble_eq_true rfl) (Nat.le_of_ble_eq_true rfl)
                      · have c360 : x % 3 = 0 := (nI_eq (a := x % 3) (b := 0) (by omega) (by omega)).mp c360
                        refine lv_sipush (v := 1000) C.1 C.2.1 dL_step_363 (by decide) ?_
                        refine lv_goto (tgt := 371) C.1 C.2.1 dL_step_366 (by decide) ?_
                        refine lv_irem C.1 C.2.1 dL_step_371 (by decide) ?_
                        refine lv_topi (fun z_49 ez_49 => ?_)
                        have ez_49 := ez_49.trans (show _ = nI (y % 1000) by exact pk_rem (a := y) (d := 1000) (by omega) (by decide) (by decide))
                        subst ez_49
                        refine lv_iadd C.1 C.2.1 dL_step_372 ?_
                        refine lv_topi (fun z_50 ez_50 => ?_)
                        have ez_50 := ez_50.trans (show _ = nI (1 + (y % 1000)) by exact nI_add 1 (y % 1000))
                        subst ez_50
                        refine lv_aload C.1 C.2.1 dL_step_373 (lv_at hl 5 rfl) ?_
                        refine lv_aload C.1 C.2.1 dL_step_375 (lv_at hl 6 rfl) ?_
                        refine lv_aload C.1 C.2.1 dL_step_377 (lv_at hl 8 rfl) ?_
                        refine hv_ki I (va_runS (As := [.ref (ad 0 0), .int (nI (1 + (y % 1000))), .ref (aa 0), .ref (aa 1), .ref (aa 3)]) (rest := []) C.fix (c_L_pays l G h_44 _ hlt hD ⟨fH, fT, fP, fC, fZ⟩ (hN.pday (nI t)) (ce := 1 + (y % 1000)) (by omega) (by omega) (by omega) upd_eq) (va_cwS 5 C.2.2.2.2.1 gL_step_L_pays rfl rfl rfl (by decide +kernel) ⟨Nat.le_of_ble_eq_true rfl, Nat.le_of_ble_eq_true rfl⟩) (hv_preS C I) rfl rfl hl.1 rfl (lv_room (Nat.le_of_ble_eq_true rfl)) dL_step_379 ⟨Nat.le_of_ble_eq_true rfl, Nat.le_of_ble_eq_true rfl⟩) (fun ru_51 u_51 H locs pu_51 I => ?_)
                        obtain ⟨e2, hI⟩ := pu_51; have e2 := e2.symm; subst e2
                        exact hv_zret (v := 1) C hr I rfl (⟨rfl, hI⟩) dL_step_382 (Nat.le_of_ble_eq_true rfl) (Nat.le_of_ble_eq_true rfl)
                    · have c338 : d = 12 := (nI_eq (a := d) (b := 12) (by omega) (by omega)).mp c338
                      refine lv_iconst (v := 1) C.1 C.2.1 dL_step_341 (by decide) ?_
                      exact hv_zret (v := 1) C hr I rfl (⟨rfl, inv_mk hD hN ⟨fH, fT, fP, fC, fZ⟩⟩) dL_step_342 (Nat.le_of_ble_eq_true rfl) (Nat.le_of_ble_eq_true rfl)
              · have c237 : ¬ (11 ≤ w) := fun z => c237 ((nI_leI (a := 11) (b := w) (by omega) (by omega)).mpr z)
                refine lv_iload_n C.1 C.2.1 dL_step_240 rfl (lv_at hl 4 rfl) ?_
                refine lv_iconst (v := 4) C.1 C.2.1 dL_step_241 (by decide) ?_
                refine lv_irem C.1 C.2.1 dL_step_242 (by decide) ?_
                refine lv_topi (fun z_52 ez_52 => ?_)
                have ez_52 := ez_52.trans (show _ = nI (y % 4) by exact pk_rem (a := y) (d := 4) (by omega) (by decide) (by decide))
                subst ez_52
                refine lv_if_ne (tgt := 258) C.1 C.2.1 dL_step_243 (by decide) (fun c243 => ?_) (fun c243 => ?_)
                · have c243 : ¬ (y % 4 = 0) := fun z => c243 ((nI_eq (a := y % 4) (b := 0) (by omega) (by omega)).mpr z)
                  refine lv_iload_n C.1 C.2.1 dL_step_258 rfl (lv_at hl 4 rfl) ?_
                  refine lv_iconst (v := 4) C.1 C.2.1 dL_step_259 (by decide) ?_
                  refine lv_irem C.1 C.2.1 dL_step_260 (by decide) ?_
                  refine lv_topi (fun z_53 ez_53 => ?_)
                  have ez_53 := ez_53.trans (show _ = nI (y % 4) by exact pk_rem (a := y) (d := 4) (by omega) (by decide) (by decide))
                  subst ez_53
                  refine lv_iconst (v := 1) C.1 C.2.1 dL_step_261 (by decide) ?_
                  refine lv_icmp_ne (tgt := 277) C.1 C.2.1 dL_step_262 (by decide) (fun c262 => ?_) (fun c262 => ?_)
                  · have c262 : ¬ (y % 4 = 1) := fun z => c262 ((nI_eq (a := y % 4) (b := 1) (by omega) (by omega)).mpr z)
                    refine lv_iconst (v := 1) C.1 C.2.1 dL_step_277 (by decide) ?_
                    refine lv_iload_n C.1 C.2.1 dL_step_278 rfl (lv_at hl 4 rfl) ?_
                    refine lv_iconst (v := 4) C.1 C.2.1 dL_step_279 (by decide) ?_
                    refine lv_idiv C.1 C.2.1 dL_step_280 (by decide) ?_
                    refine lv_topi (fun z_54 ez_54 => ?_)
                    have ez_54 := ez_54.trans (show _ = nI (y / 4) by exact pk_div (a := y) (d := 4) (by omega) (by decide) (by decide))
                    subst ez_54
                    refine lv_bipush (v := 40) C.1 C.2.1 dL_step_281 (by decide) ?_
                    refine lv_irem C.1 C.2.1 dL_step_283 (by decide) ?_
                    refine lv_topi (fun z_55 ez_55 => ?_)
                    have ez_55 := ez_55.trans (show _ = nI ((y / 4) % 40) by exact pk_rem (a := y / 4) (d := 40) (by omega) (by decide) (by decide))
                    subst ez_55
                    refine lv_iadd C.1 C.2.1 dL_step_284 ?_
                    refine lv_topi (fun z_56 ez_56 => ?_)
                    have ez_56 := ez_56.trans (show _ = nI (1 + ((y / 4) % 40)) by exact nI_add 1 ((y / 4) % 40))
                    subst ez_56
                    refine lv_istore (lv' := [(10, .int (nI (1 + ((y / 4) % 40)))), (9, .int (nI k)), (0, .ref (ad 0 0)), (1, .int (nI w)), (2, .int (nI x)), (3, .int (nI y)), (4, .ref (aa 0)), (5, .ref (aa 1)), (6, .ref (aa 2)), (7, .ref (aa 3)), (8, .ref (aa 4))]) C.1 C.2.1 dL_step_285 hl (by decide) rfl (fun ls hl => ?_)
                    refine lv_aload C.1 C.2.1 dL_step_287 (lv_at hl 9 rfl) ?_
                    refine lv_iconst (v := 0) C.1 C.2.1 dL_step_289 (by decide) ?_
                    refine hv_ialdN (i := 0) C I fC (by decide) (by decide) dL_step_290 ?_
                    refine lv_topi (fun z_57 ez_57 => ?_)
                    have ez_57 := ez_57.trans (show _ = nI t by exact ec0)
                    subst ez_57
                    refine lv_iload C.1 C.2.1 dL_step_291 (lv_at hl 0 rfl) ?_
                    refine lv_iadd C.1 C.2.1 dL_step_293 ?_
                    refine lv_topi (fun z_58 ez_58 => ?_)
                    have ez_58 := ez_58.trans (show _ = nI (t + (1 + ((y / 4) % 40))) by exact nI_add t (1 + ((y / 4) % 40)))
                    subst ez_58
                    refine lv_sipush (v := 20000) C.1 C.2.1 dL_step_294 (by decide) ?_
                    refine lv_icmp_gt (tgt := 313) C.1 C.2.1 dL_step_297 (by decide) (fun c297 => ?_) (fun c297 => ?_)
                    · have c297 : 20000 < t + (1 + ((y / 4) % 40)) := (nI_ltI (a := 20000) (b := t + (1 + ((y / 4) % 40))) (by omega) (by omega)).mp c297
                      refine lv_iconst (v := 1) C.1 C.2.1 dL_step_313 (by decide) ?_
                      refine lv_goto (tgt := 318) C.1 C.2.1 dL_step_314 (by decide) ?_
                      exact hv_zret (v := 1) C hr I rfl (⟨rfl, inv_mk hD hN ⟨fH, fT, fP, fC, fZ⟩⟩) dL_step_318 (Nat.le_of_ble_eq_true rfl) (Nat.le_of_ble_eq_true rfl)
                    · have c297 : ¬ (20000 < t + (1 + ((y / 4) % 40))) := fun z => c297 ((nI_ltI (a := 20000) (b := t + (1 + ((y / 4) % 40))) (by omega) (by omega)).mpr z)
                      refine lv_aload_n C.1 C.2.1 dL_step_300 rfl (lv_at hl 2 rfl) ?_
                      refine lv_iload C.1 C.2.1 dL_step_301 (lv_at hl 0 rfl) ?_
                      refine lv_aload C.1 C.2.1 dL_step_303 (lv_at hl 6 rfl) ?_
                      refine lv_aload C.1 C.2.1 dL_step_305 (lv_at hl 9 rfl) ?_
                      refine hv_ki I (va_runS (As := [.ref (ad 0 0), .int (nI (1 + ((y / 4) % 40))), .ref (aa 0), .ref (aa 3)]) (rest := []) C.fix (c_L_passes l G h _ hlt hD ⟨fH, fT, fP, fC, fZ⟩ hN (q := 1 + ((y / 4) % 40)) (by omega) (by omega) (by omega)) (va_cwS 4 C.2.2.2.2.1 gL_step_L_passes rfl rfl rfl (by decide +kernel) ⟨Nat.le_of_ble_eq_true rfl, Nat.le_of_ble_eq_true rfl⟩) (hv_preS C I) rfl rfl hl.1 rfl (lv_room (Nat.le_of_ble_eq_true rfl)) dL_step_307 ⟨Nat.le_of_ble_eq_true rfl, Nat.le_of_ble_eq_true rfl⟩) (fun ru_59 u_59 H locs pu_59 I => ?_)
                      obtain ⟨e2, hI⟩ := pu_59; have e2 := e2.symm; subst e2
                      refine lv_if_eq (tgt := 317) C.1 C.2.1 dL_step_310 (by decide) (fun c310 => ?_) (fun c310 => ?_)
                      · exact absurd c310 (by decide)
                      · refine lv_iconst (v := 1) C.1 C.2.1 dL_step_313 (by decide) ?_
                        refine lv_goto (tgt := 318) C.1 C.2.1 dL_step_314 (by decide) ?_
                        exact hv_zret (v := 1) C hr I rfl (⟨rfl, hI⟩) dL_step_318 (Nat.le_of_ble_eq_true rfl) (Nat.le_of_ble_eq_true rfl)
                  · have c262 : y % 4 = 1 := (nI_eq (a := y % 4) (b := 1) (by omega) (by omega)).mp c262
                    refine lv_sipush (v := 363) C.1 C.2.1 dL_step_265 (by decide) ?_
                    refine lv_iload_n C.1 C.2.1 dL_step_268 rfl (lv_at hl 4 rfl) ?_
                    refine lv_iconst (v := 4) C.1 C.2.1 dL_step_269 (by decide) ?_
                    refine lv_idiv C.1 C.2.1 dL_step_270 (by decide) ?_
                    refine lv_topi (fun z_60 ez_60 => ?_)
                    have ez_60 := ez_60.trans (show _ = nI (y / 4) by exact pk_div (a := y) (d := 4) (by omega) (by decide) (by decide))
                    subst ez_60
                    refine lv_iconst (v := 4) C.1 C.2.1 dL_step_271 (by decide) ?_
                    refine lv_irem C.1 C.2.1 dL_step_272 (by decide) ?_
                    refine lv_topi (fun z_61 ez_61 => ?_)
                    have ez_61 := ez_61.trans (show _ = nI ((y / 4) % 4) by exact pk_rem (a := y / 4) (d := 4) (by omega) (by decide) (by decide))
                    subst ez_61
                    refine lv_iadd C.1 C.2.1 dL_step_273 ?_
                    refine lv_topi (fun z_62 ez_62 => ?_)
                    have ez_62 := ez_62.trans (show _ = nI (363 + ((y / 4) % 4)) by exact nI_add 363 ((y / 4) % 4))
                    subst ez_62
                    refine lv_goto (tgt := 285) C.1 C.2.1 dL_step_274 (by decide) ?_
                    refine lv_istore (lv' := [(10, .int (nI (363 + ((y / 4) % 4)))), (9, .int (nI k)), (0, .ref (ad 0 0)), (1, .int (nI w)), (2, .int (nI x)), (3, .int (nI y)), (4, .ref (aa 0)), (5, .ref (aa 1)), (6, .ref (aa 2)), (7, .ref (aa 3)), (8, .ref (aa 4))]) C.1 C.2.1 dL_step_285 hl (by decide) rfl (fun ls hl => ?_)
                    refine lv_aload C.1 C.2.1 dL_step_287 (lv_at hl 9 rfl) ?_
                    refine lv_iconst (v := 0) C.1 C.2.1 dL_step_289 (by decide) ?_
                    refine hv_ialdN (i := 0) C I fC (by decide) (by decide) dL_step_290 ?_
                    refine lv_topi (fun z_63 ez_63 => ?_)
                    have ez_63 := ez_63.trans (show _ = nI t by exact ec0)
                    subst ez_63
                    refine lv_iload C.1 C.2.1 dL_step_291 (lv_at hl 0 rfl) ?_
                    refine lv_iadd C.1 C.2.1 dL_step_293 ?_
                    refine lv_topi (fun z_64 ez_64 => ?_)
                    have ez_64 := ez_64.trans (show _ = nI (t + (363 + ((y / 4) % 4))) by exact nI_add t (363 + ((y / 4) % 4)))
                    subst ez_64
                    refine lv_sipush (v := 20000) C.1 C.2.1 dL_step_294 (by decide) ?_
                    refine lv_icmp_gt (tgt := 313) C.1 C.2.1 dL_step_297 (by decide) (fun c297 => ?_) (fun c297 => ?_)
                    · have c297 : 20000 < t + (363 + ((y / 4) % 4)) := (nI_ltI (a := 20000) (b := t + (363 + ((y / 4) % 4))) (by omega) (by omega)).mp c297
                      refine lv_iconst (v := 1) C.1 C.2.1 dL_step_313 (by decide) ?_
                      refine lv_goto (tgt := 318) C.1 C.2.1 dL_step_314 (by decide) ?_
                      exact hv_zret (v := 1) C hr I rfl (⟨rfl, inv_mk hD hN ⟨fH, fT, fP, fC, fZ⟩⟩) dL_step_318 (Nat.le_of_ble_eq_true rfl) (Nat.le_of_ble_eq_true rfl)
                    · have c297 : ¬ (20000 < t + (363 + ((y / 4) % 4))) := fun z => c297 ((nI_ltI (a := 20000) (b := t + (363 + ((y / 4) % 4))) (by omega) (by omega)).mpr z)
                      refine lv_aload_n C.1 C.2.1 dL_step_300 rfl (lv_at hl 2 rfl) ?_
                      refine lv_iload C.1 C.2.1 dL_step_301 (lv_at hl 0 rfl) ?_
                      refine lv_aload C.1 C.2.1 dL_step_303 (lv_at hl 6 rfl) ?_
                      refine lv_aload C.1 C.2.1 dL_step_305 (lv_at hl 9 rfl) ?_
                      refine hv_ki I (va_runS (As := [.ref (ad 0 0), .int (nI (363 + ((y / 4) % 4))), .ref (aa 0), .ref (aa 3)]) (rest := []) C.fix (c_L_passes l G h _ hlt hD ⟨fH, fT, fP, fC, fZ⟩ hN (q := 363 + ((y / 4) % 4)) (by omega) (by omega) (by omega)) (va_cwS 4 C.2.2.2.2.1 gL_step_L_passes rfl rfl rfl (by decide +kernel) ⟨Nat.le_of_ble_eq_true rfl, Nat.le_of_ble_eq_true rfl⟩) (hv_preS C I) rfl rfl hl.1 rfl (lv_room (Nat.le_of_ble_eq_true rfl)) dL_step_307 ⟨Nat.le_of_ble_eq_true rfl, Nat.le_of_ble_eq_true rfl⟩) (fun ru_65 u_65 H locs pu_65 I => ?_)
                      obtain ⟨e2, hI⟩ := pu_65; have e2 := e2.symm; subst e2
                      refine lv_if_eq (tgt := 317) C.1 C.2.1 dL_step_310 (by decide) (fun c310 => ?_) (fun c310 => ?_)
                      · exact absurd c310 (by decide)
                      · refine lv_iconst (v := 1) C.1 C.2.1 dL_step_313 (by decide) ?_
                        refine lv_goto (tgt := 318) C.1 C.2.1 dL_step_314 (by decide) ?_
                        exact hv_zret (v := 1) C hr I rfl (⟨rfl, hI⟩) dL_step_318 (Nat.le_of_ble_eq_true rfl) (Nat.le_of_ble_eq_true rfl)
                · have c243 : y % 4 = 0 := (nI_eq (a := y % 4) (b := 0) (by omega) (by omega)).mp c243
                  refine lv_iconst (v := 1) C.1 C.2.1 dL_step_246 (by decide) ?_
                  refine lv_iload_n C.1 C.2.1 dL_step_247 rfl (lv_at hl 4 rfl) ?_
                  refine lv_iconst (v := 4) C.1 C.2.1 dL_step_248 (by decide) ?_
                  refine lv_idiv C.1 C.2.1 dL_step_249 (by decide) ?_
                  refine lv_topi (fun z_66 ez_66 => ?_)
                  have ez_66 := ez_66.trans (show _ = nI (y / 4) by exact pk_div (a := y) (d := 4) (by omega) (by decide) (by decide))
                  subst ez_66
                  refine lv_sipush (v := 900) C.1 C.2.1 dL_step_250 (by decide) ?_
                  refine lv_irem C.1 C.2.1 dL_step_253 (by decide) ?_
                  refine lv_topi (fun z_67 ez_67 => ?_)
                  have ez_67 := ez_67.trans (show _ = nI ((y / 4) % 900) by exact pk_rem (a := y / 4) (d := 900) (by omega) (by decide) (by decide))
                  subst ez_67
                  refine lv_iadd C.1 C.2.1 dL_step_254 ?_
                  refine lv_topi (fun z_68 ez_68 => ?_)
                  have ez_68 := ez_68.trans (show _ = nI (1 + ((y / 4) % 900)) by exact nI_add 1 ((y / 4) % 900))
                  subst ez_68
                  refine lv_goto (tgt := 285) C.1 C.2.1 dL_step_255 (by decide) ?_
                  refine lv_istore (lv' := [(10, .int (nI (1 + ((y / 4) % 900)))), (9, .int (nI k)), (0, .ref (ad 0 0)), (1, .int (nI w)), (2, .int (nI x)), (3, .int (nI y)), (4, .ref (aa 0)), (5, .ref (aa 1)), (6, .ref (aa 2)), (7, .ref (aa 3)), (8, .ref (aa 4))]) C.1 C.2.1 dL_step_285 hl (by decide) rfl (fun ls hl => ?_)
                  refine lv_aload C.1 C.2.1 dL_step_287 (lv_at hl 9 rfl) ?_
                  refine lv_iconst (v := 0) C.1 C.2.1 dL_step_289 (by decide) ?_
                  refine hv_ialdN (i := 0) C I fC (by decide) (by decide) dL_step_290 ?_
                  refine lv_topi (fun z_69 ez_69 => ?_)
                  have ez_69 := ez_69.trans (show _ = nI t by exact ec0)
                  subst ez_69
                  refine lv_iload C.1 C.2.1 dL_step_291 (lv_at hl 0 rfl) ?_
                  refine lv_iadd C.1 C.2.1 dL_step_293 ?_
                  refine lv_topi (fun z_70 ez_70 => ?_)
                  have ez_70 := ez_70.trans (show _ = nI (t + (1 + ((y / 4) % 900))) by exact nI_add t (1 + ((y / 4) % 900)))
                  subst ez_70
                  refine lv_sipush (v := 20000) C.1 C.2.1 dL_step_294 (by decide) ?_
                  refine lv_icmp_gt (tgt := 313) C.1 C.2.1 dL_step_297 (by decide) (fun c297 => ?_) (fun c297 => ?_)
                  · have c297 : 20000 < t + (1 + ((y / 4) % 900)) := (nI_ltI (a := 20000) (b := t + (1 + ((y / 4) % 900))) (by omega) (by omega)).mp c297
                    refine lv_iconst (v := 1) C.1 C.2.1 dL_step_313 (by decide) ?_
                    refine lv_goto (tgt := 318) C.1 C.2.1 dL_step_314 (by decide) ?_
                    exact hv_zret (v := 1) C hr I rfl (⟨rfl, inv_mk hD hN ⟨fH, fT, fP, fC, fZ⟩⟩) dL_step_318 (Nat.le_of_ble_eq_true rfl) (Nat.le_of_ble_eq_true rfl)
                  · have c297 : ¬ (20000 < t + (1 + ((y / 4) % 900))) := fun z => c297 ((nI_ltI (a := 20000) (b := t + (1 + ((y / 4) % 900))) (by omega) (by omega)).mpr z)
                    refine lv_aload_n C.1 C.2.1 dL_step_300 rfl (lv_at hl 2 rfl) ?_
                    refine lv_iload C.1 C.2.1 dL_step_301 (lv_at hl 0 rfl) ?_
                    refine lv_aload C.1 C.2.1 dL_step_303 (lv_at hl 6 rfl) ?_
                    refine lv_aload C.1 C.2.1 dL_step_305 (lv_at hl 9 rfl) ?_
                    refine hv_ki I (va_runS (As := [.ref (ad 0 0), .int (nI (1 + ((y / 4) % 900))), .ref (aa 0), .ref (aa 3)]) (rest := []) C.fix (c_L_passes l G h _ hlt hD ⟨fH, fT, fP, fC, fZ⟩ hN (q := 1 + ((y / 4) % 900)) (by omega) (by omega) (by omega)) (va_cwS 4 C.2.2.2.2.1 gL_step_L_passes rfl rfl rfl (by decide +kernel) ⟨Nat.le_of_ble_eq_true rfl, Nat.le_of_ble_eq_true rfl⟩) (hv_preS C I) rfl rfl hl.1 rfl (lv_room (Nat.le_of_ble_eq_true rfl)) dL_step_307 ⟨Nat.le_of_ble_eq_true rfl, Nat.le_of_ble_eq_true rfl⟩) (fun ru_71 u_71 H locs pu_71 I => ?_)
                    obtain ⟨e2, hI⟩ := pu_71; have e2 := e2.symm; subst e2
                    refine lv_if_eq (tgt := 317) C.1 C.2.1 dL_step_310 (by decide) (fun c310 => ?_) (fun c310 => ?_)
                    · exact absurd c310 (by decide)
                    · refine lv_iconst (v := 1) C.1 C.2.1 dL_step_313 (by decide) ?_
                      refine lv_goto (tgt := 318) C.1 C.2.1 dL_step_314 (by decide) ?_
                      exact hv_zret (v := 1) C hr I rfl (⟨rfl, hI⟩) dL_step_318 (Nat.le_of_ble_eq_true rfl) (Nat.le_of_ble_eq_true rfl)
            · have c220 : w = 8 := (nI_eq (a := w) (b := 8) (by omega) (by omega)).mp c220
              refine lv_aload_n C.1 C.2.1 dL_step_223 rfl (lv_at hl 1 rfl) ?_
              refine lv_iload_n C.1 C.2.1 dL_step_224 rfl (lv_at hl 3 rfl) ?_
              refine lv_iload_n C.1 C.2.1 dL_step_225 rfl (lv_at hl 4 rfl) ?_
              refine lv_aload C.1 C.2.1 dL_step_226 (lv_at hl 5 rfl) ?_
              refine lv_aload C.1 C.2.1 dL_step_228 (lv_at hl 8 rfl) ?_
              refine hv_ki I (va_runS (As := [.ref (ad 0 0), .int (nI x), .int (nI y), .ref (aa 0), .ref (aa 3)]) (rest := []) C.fix (c_L_parts l G h _ hlt hD ⟨fH, fT, fP, fC, fZ⟩ hN (by omega) (by omega)) (va_cwS 5 C.2.2.2.2.1 gL_step_L_parts rfl rfl rfl (by decide +kernel) ⟨Nat.le_of_ble_eq_true rfl, Nat.le_of_ble_eq_true rfl⟩) (hv_preS C I) rfl rfl hl.1 rfl (lv_room (Nat.le_of_ble_eq_true rfl)) dL_step_230 ⟨Nat.le_of_ble_eq_true rfl, Nat.le_of_ble_eq_true rfl⟩) (fun ru_72 u_72 H locs pu_72 I => ?_)
              obtain ⟨e2, hI⟩ := pu_72; have e2 := e2.symm; subst e2
              exact hv_zret (v := 1) C hr I rfl (⟨rfl, hI⟩) dL_step_233 (Nat.le_of_ble_eq_true rfl) (Nat.le_of_ble_eq_true rfl)
          · have c166 : ¬ (8 ≤ w) := fun z => c166 ((nI_leI (a := 8) (b := w) (by omega) (by omega)).mpr z)
            refine lv_aload C.1 C.2.1 dL_step_169 (lv_at hl 5 rfl) ?_
            refine lv_iload C.1 C.2.1 dL_step_171 (lv_at hl 0 rfl) ?_
            refine lv_aload C.1 C.2.1 dL_step_173 (lv_at hl 5 rfl) ?_
            refine lv_iload C.1 C.2.1 dL_step_175 (lv_at hl 0 rfl) ?_
            refine hv_laldN (i := k) C I fH (by omega) (by decide) dL_step_177 ?_
            refine lv_bipush (v := 25) C.1 C.2.1 dL_step_178 (by decide) ?_
            refine lv_bipush (v := 15) C.1 C.2.1 dL_step_180 (by decide) ?_
            refine lv_aload C.1 C.2.1 dL_step_182 (lv_at hl 8 rfl) ?_
            refine lv_iconst (v := 0) C.1 C.2.1 dL_step_184 (by decide) ?_
            refine hv_ialdN (i := 0) C I fC (by decide) (by decide) dL_step_185 ?_
            refine lv_topi (fun z_73 ez_73 => ?_)
            have ez_73 := ez_73.trans (show _ = nI t by exact ec0)
            subst ez_73
            refine lv_sipush (v := 1081) C.1 C.2.1 dL_step_186 (by decide) ?_
            refine lv_iadd C.1 C.2.1 dL_step_189 ?_
            refine lv_topi (fun z_74 ez_74 => ?_)
            have ez_74 := ez_74.trans (show _ = nI (t + 1081) by exact nI_add t 1081)
            subst ez_74
            refine hv_kl I (va_runS (As := [.long (hF k), .int 25, .int 15, .int (nI (t + 1081))]) (rest := [.int (nI k), .ref (aa 0)]) C.fix (c_L_with l G h _ (hF k) 25 15 (nI (t + 1081))) (va_cwS 4 C.2.2.2.2.1 gL_step_L_with rfl rfl rfl (by decide +kernel) ⟨Nat.le_of_ble_eq_true rfl, Nat.le_of_ble_eq_true rfl⟩) (hv_preS C I) rfl rfl hl.1 rfl (lv_room (Nat.le_of_ble_eq_true rfl)) dL_step_190 ⟨Nat.le_of_ble_eq_true rfl, Nat.le_of_ble_eq_true rfl⟩) (fun ru_75 u_75 H locs pu_75 I => ?_)
            obtain ⟨e1, e2⟩ := pu_75; have e1 := e1.symm; subst e1; have e2 := e2.symm; subst e2
            refine lv_topl (fun z_76 ez_76 => ?_)
            have ez_76 := ez_76.trans (show _ = wtF (hF k) 25 15 (nI t + 1081) by rw [show nI t + 1081 = nI (t + 1081) from nI_add t 1081])
            subst ez_76
            refine lv_topl (fun z_77 ez_77 => ?_)
            have ez_77 := ez_77.trans (show _ = wtF (hF k) 25 15 (nI t + 1081) by rw [show nI t + 1081 = nI (t + 1081) from nI_add t 1081])
            subst ez_77
            refine hv_lastN (i := k) C I fH (by omega) (by decide) dL_step_193 (fun H locs I => ?_)
            obtain ⟨h_78, eh_78⟩ : ∃ z, z = hv_up h (aa 0) (.inl (G.2.1 4, 20, .inr (.inl (vp_updL hF k (wtF (hF k) 25 15 (nI t + 1081)))))) := ⟨_, rfl⟩
            have I : hv_I G h s h_78 H locs := by rw [eh_78]; exact I
            have hD : isD G (cut aa h_78) ad n d d (nI t) rf ar fm po := by rw [eh_78, cut_up (Or.inl rfl)]; exact hD
            have fH9 : h_78 (aa 0) = some (.inl (G.2.1 4, 20, .inr (.inl (vp_updL hF k (wtF (hF k) 25 15 (nI t + 1081)))))) := by rw [eh_78]; exact hv_up_eq
            have fT9 : h_78 (aa 1) = some (.inl (G.2.1 0, 12, .inl tF)) := by rw [eh_78, hv_up_ne (hv_neLen fT fH (by decide))]; exact fT
            have fP9 : h_78 (aa 2) = some (.inl (G.2.1 0, 13, .inl pF)) := by rw [eh_78, hv_up_ne (hv_neLen fP fH (by decide))]; exact fP
            have fC9 : h_78 (aa 3) = some (.inl (G.2.1 0, 3, .inl cF)) := by rw [eh_78, hv_up_ne (hv_neLen fC fH (by decide))]; exact fC
            have fZ9 : h_78 (aa 4) = some (.inl (G.2.1 4, 1, .inr (.inl zF))) := by rw [eh_78, hv_up_ne (hv_neLen fZ fH (by decide))]; exact fZ
            have fH := fH9
            have fT := fT9
            have fP := fP9
            have fC := fC9
            have fZ := fZ9
            refine lv_aload_n C.1 C.2.1 dL_step_194 rfl (lv_at hl 1 rfl) ?_
            refine lv_iload C.1 C.2.1 dL_step_195 (lv_at hl 0 rfl) ?_
            have hA : lvA aa h_78 := LV.A (G := G) ⟨fH, fT, fP, fC, fZ⟩
            refine hv_ski I (cut_le aa h_78) (va_runV (As := [.int (nI k)]) (rest := []) C.fix (k_giveForm l hlt G (cut aa h_78) _ hD bn hk) (cwV 1 C.2.2.2.2.1 gL_step_X4_giveForm rfl rfl rfl (by decide +kernel) ⟨Nat.le_of_ble_eq_true rfl, Nat.le_of_ble_eq_true rfl⟩) (hv_preV C (I.sub (cut_le aa h_78)) (isD_0 hD) (r := (RX4, TX4, 6)) rfl) rfl rfl hl.1 rfl (lv_room (Nat.le_of_ble_eq_true rfl)) dL_step_197 ⟨Nat.le_of_ble_eq_true rfl, Nat.le_of_ble_eq_true rfl⟩) (fun ru_79 u_79 Ju_79 H locs pu_79 hfr I => ?_)
            obtain ⟨hle, hkp⟩ := cut_aft hA hfr
            have fH9 : Ju_79 (aa 0) = some (.inl (G.2.1 4, 20, .inr (.inl (vp_updL hF k (wtF (hF k) 25 15 (nI t + 1081)))))) := (hkp _ (Or.inl rfl)).trans fH
            have fT9 : Ju_79 (aa 1) = some (.inl (G.2.1 0, 12, .inl tF)) := (hkp _ (Or.inr (Or.inl rfl))).trans fT
            have fP9 : Ju_79 (aa 2) = some (.inl (G.2.1 0, 13, .inl pF)) := (hkp _ (Or.inr (Or.inr (Or.inl rfl)))).trans fP
            have fC9 : Ju_79 (aa 3) = some (.inl (G.2.1 0, 3, .inl cF)) := (hkp _ (Or.inr (Or.inr (Or.inr (Or.inl rfl))))).trans fC
            have fZ9 : Ju_79 (aa 4) = some (.inl (G.2.1 4, 1, .inr (.inl zF))) := (hkp _ (Or.inr (Or.inr (Or.inr (Or.inr rfl))))).trans fZ
            have fH := fH9
            have fT := fT9
            have fP := fP9
            have fC := fC9
            have fZ := fZ9
            obtain ⟨e2, hD2⟩ := pu_79; have e2 := (e2.trans (nI_add t 1080)).symm; subst e2
            have hD : isD G (cut aa Ju_79) ad n d d (nI t) rf (va_up ar 7 (upd (ar 7) k (nI t + 1080))) fm po := isD_le hle hD2
            refine lv_aload C.1 C.2.1 dL_step_200 (lv_at hl 8 rfl) ?_
            refine lv_iconst (v := 0) C.1 C.2.1 dL_step_202 (by decide) ?_
            refine hv_ialdN (i := 0) C I fC (by decide) (by decide) dL_step_203 ?_
            refine lv_topi (fun z_80 ez_80 => ?_)
            have ez_80 := ez_80.trans (show _ = nI t by exact ec0)
            subst ez_80
            refine lv_sipush (v := 1080) C.1 C.2.1 dL_step_204 (by decide) ?_
            refine lv_iadd C.1 C.2.1 dL_step_207 ?_
            refine lv_topi (fun z_81 ez_81 => ?_)
            have ez_81 := ez_81.trans (show _ = nI (t + 1080) by exact nI_add t 1080)
            subst ez_81
            refine lv_icmp_ne (tgt := 215) C.1 C.2.1 dL_step_208 (by decide) (fun c208 => ?_) (fun c208 => ?_)
            · exact absurd rfl c208
            · refine lv_iconst (v := 1) C.1 C.2.1 dL_step_211 (by decide) ?_
              refine lv_goto (tgt := 216) C.1 C.2.1 dL_step_212 (by decide) ?_
              exact hv_zret (v := 1) C hr I rfl (⟨rfl, inv_mk hD (hN.form hk) ⟨fH, fT, fP, fC, fZ⟩⟩) dL_step_216 (Nat.le_of_ble_eq_true rfl) (Nat.le_of_ble_eq_true rfl)
        · have c85 : w = 5 := (nI_eq (a := w) (b := 5) (by omega) (by omega)).mp c85
          refine lv_iload_n C.1 C.2.1 dL_step_88 rfl (lv_at hl 3 rfl) ?_
          refine lv_bipush (v := 6) C.1 C.2.1 dL_step_89 (by decide) ?_
          refine lv_irem C.1 C.2.1 dL_step_91 (by decide) ?_
          refine lv_topi (fun z_82 ez_82 => ?_)
          have ez_82 := ez_82.trans (show _ = nI (x % 6) by exact pk_rem (a := x) (d := 6) (by omega) (by decide) (by decide))
          subst ez_82
          refine lv_istore (lv' := [(10, .int (nI (x % 6))), (9, .int (nI k)), (0, .ref (ad 0 0)), (1, .int (nI w)), (2, .int (nI x)), (3, .int (nI y)), (4, .ref (aa 0)), (5, .ref (aa 1)), (6, .ref (aa 2)), (7, .ref (aa 3)), (8, .ref (aa 4))]) C.1 C.2.1 dL_step_92 hl (by decide) rfl (fun ls hl => ?_)
          refine lv_aload C.1 C.2.1 dL_step_94 (lv_at hl 7 rfl) ?_
          refine lv_iconst (v := 2) C.1 C.2.1 dL_step_96 (by decide) ?_
          refine lv_iload C.1 C.2.1 dL_step_97 (lv_at hl 0 rfl) ?_
          refine lv_imul C.1 C.2.1 dL_step_99 ?_
          refine lv_topi (fun z_83 ez_83 => ?_)
          have ez_83 := ez_83.trans (show _ = nI (2 * (x % 6)) by exact pk_mul 2 (x % 6))
          subst ez_83
          refine hv_ialdN (i := 2 * (x % 6)) C I fT (by omega) (by decide) dL_step_100 ?_
          refine lv_topi (fun z_84 ez_84 => ?_)
          have ez_84 := ez_84.trans (show _ = nI (g (x % 6)) by exact (hR (x % 6) (by omega)).1.2.1)
          subst ez_84
          refine lv_istore (lv' := [(11, .int (nI (g (x % 6)))), (10, .int (nI (x % 6))), (9, .int (nI k)), (0, .ref (ad 0 0)), (1, .int (nI w)), (2, .int (nI x)), (3, .int (nI y)), (4, .ref (aa 0)), (5, .ref (aa 1)), (6, .ref (aa 2)), (7, .ref (aa 3)), (8, .ref (aa 4))]) C.1 C.2.1 dL_step_101 hl (by decide) rfl (fun ls hl => ?_)
          refine lv_aload C.1 C.2.1 dL_step_103 (lv_at hl 8 rfl) ?_
          refine lv_iconst (v := 2) C.1 C.2.1 dL_step_105 (by decide) ?_
          refine lv_iload C.1 C.2.1 dL_step_106 (lv_at hl 1 rfl) ?_
          refine lv_imul C.1 C.2.1 dL_step_108 ?_
          refine lv_topi (fun z_85 ez_85 => ?_)
          have ez_85 := ez_85.trans (show _ = nI (2 * (x % 6)) by exact pk_mul 2 (x % 6))
          subst ez_85
          refine lv_iload_n C.1 C.2.1 dL_step_109 rfl (lv_at hl 6 rfl) ?_
          refine lv_bipush (v := 31) C.1 C.2.1 dL_step_110 (by decide) ?_
          refine lv_irem C.1 C.2.1 dL_step_112 (by decide) ?_
          refine lv_topi (fun z_86 ez_86 => ?_)
          have ez_86 := ez_86.trans (show _ = nI (y % 31) by exact pk_rem (a := y) (d := 31) (by omega) (by decide) (by decide))
          subst ez_86
          refine hv_iastN (i := 2 * (x % 6)) C I fT (by omega) (by decide) dL_step_113 (fun H locs I => ?_)
          obtain ⟨h_87, eh_87⟩ : ∃ z, z = hv_up h (aa 1) (.inl (G.2.1 0, 12, .inl (upd tF (2 * (x % 6)) (nI (y % 31))))) := ⟨_, rfl⟩
          have I : hv_I G h s h_87 H locs := by rw [eh_87]; exact I
          have hD : isD G (cut aa h_87) ad n d d (nI t) rf ar fm po := by rw [eh_87, cut_up (Or.inr (Or.inl rfl))]; exact hD
          have fH9 : h_87 (aa 0) = some (.inl (G.2.1 4, 20, .inr (.inl hF))) := by rw [eh_87, hv_up_ne (hv_neLen fH fT (by decide))]; exact fH
          have fT9 : h_87 (aa 1) = some (.inl (G.2.1 0, 12, .inl (upd tF (2 * (x % 6)) (nI (y % 31))))) := by rw [eh_87]; exact hv_up_eq
          have fP9 : h_87 (aa 2) = some (.inl (G.2.1 0, 13, .inl pF)) := by rw [eh_87, hv_up_ne (hv_neLen fP fT (by decide))]; exact fP
          have fC9 : h_87 (aa 3) = some (.inl (G.2.1 0, 3, .inl cF)) := by rw [eh_87, hv_up_ne (hv_neLen fC fT (by decide))]; exact fC
          have fZ9 : h_87 (aa 4) = some (.inl (G.2.1 4, 1, .inr (.inl zF))) := by rw [eh_87, hv_up_ne (hv_neLen fZ fT (by decide))]; exact fZ
          have fH := fH9
          have fT := fT9
          have fP := fP9
          have fC := fC9
          have fZ := fZ9
          refine lv_aload C.1 C.2.1 dL_step_114 (lv_at hl 8 rfl) ?_
          refine lv_iconst (v := 2) C.1 C.2.1 dL_step_116 (by decide) ?_
          refine lv_iload C.1 C.2.1 dL_step_117 (lv_at hl 1 rfl) ?_
          refine lv_imul C.1 C.2.1 dL_step_119 ?_
          refine lv_topi (fun z_88 ez_88 => ?_)
          have ez_88 := ez_88.trans (show _ = nI (2 * (x % 6)) by exact pk_mul 2 (x % 6))
          subst ez_88
          refine lv_iconst (v := 1) C.1 C.2.1 dL_step_120 (by decide) ?_
          refine lv_iadd C.1 C.2.1 dL_step_121 ?_
          refine lv_topi (fun z_89 ez_89 => ?_)
          have ez_89 := ez_89.trans (show _ = nI ((2 * (x % 6)) + 1) by exact nI_add (2 * (x % 6)) 1)
          subst ez_89
          refine lv_iload_n C.1 C.2.1 dL_step_122 rfl (lv_at hl 6 rfl) ?_
          refine lv_bipush (v := 31) C.1 C.2.1 dL_step_123 (by decide) ?_
          refine lv_idiv C.1 C.2.1 dL_step_125 (by decide) ?_
          refine lv_topi (fun z_90 ez_90 => ?_)
          have ez_90 := ez_90.trans (show _ = nI (y / 31) by exact pk_div (a := y) (d := 31) (by omega) (by decide) (by decide))
          subst ez_90
          refine lv_bipush (v := 31) C.1 C.2.1 dL_step_126 (by decide) ?_
          refine lv_irem C.1 C.2.1 dL_step_128 (by decide) ?_
          refine lv_topi (fun z_91 ez_91 => ?_)
          have ez_91 := ez_91.trans (show _ = nI ((y / 31) % 31) by exact pk_rem (a := y / 31) (d := 31) (by omega) (by decide) (by decide))
          subst ez_91
          refine hv_iastN (i := (2 * (x % 6)) + 1) C I fT (by omega) (by decide) dL_step_129 (fun H locs I => ?_)
          obtain ⟨h_92, eh_92⟩ : ∃ z, z = hv_up h_87 (aa 1) (.inl (G.2.1 0, 12, .inl (upd (upd tF (2 * (x % 6)) (nI (y % 31))) ((2 * (x % 6)) + 1) (nI ((y / 31) % 31))))) := ⟨_, rfl⟩
          have I : hv_I G h s h_92 H locs := by rw [eh_92]; exact I
          have hD : isD G (cut aa h_92) ad n d d (nI t) rf ar fm po := by rw [eh_92, cut_up (Or.inr (Or.inl rfl))]; exact hD
          have fH9 : h_92 (aa 0) = some (.inl (G.2.1 4, 20, .inr (.inl hF))) := by rw [eh_92, hv_up_ne (hv_neLen fH fT (by decide))]; exact fH
          have fT9 : h_92 (aa 1) = some (.inl (G.2.1 0, 12, .inl (upd (upd tF (2 * (x % 6)) (nI (y % 31))) ((2 * (x % 6)) + 1) (nI ((y / 31) % 31))))) := by rw [eh_92]; exact hv_up_eq
          have fP9 : h_92 (aa 2) = some (.inl (G.2.1 0, 13, .inl pF)) := by rw [eh_92, hv_up_ne (hv_neLen fP fT (by decide))]; exact fP
          have fC9 : h_92 (aa 3) = some (.inl (G.2.1 0, 3, .inl cF)) := by rw [eh_92, hv_up_ne (hv_neLen fC fT (by decide))]; exact fC
          have fZ9 : h_92 (aa 4) = some (.inl (G.2.1 4, 1, .inr (.inl zF))) := by rw [eh_92, hv_up_ne (hv_neLen fZ fT (by decide))]; exact fZ
          have fH := fH9
          have fT := fT9
          have fP := fP9
          have fC := fC9
          have fZ := fZ9
          refine lv_aload_n C.1 C.2.1 dL_step_130 rfl (lv_at hl 3 rfl) ?_
          refine lv_iload C.1 C.2.1 dL_step_131 (lv_at hl 1 rfl) ?_
          refine lv_aload C.1 C.2.1 dL_step_133 (lv_at hl 8 rfl) ?_
          refine lv_iconst (v := 2) C.1 C.2.1 dL_step_135 (by decide) ?_
          refine lv_iload C.1 C.2.1 dL_step_136 (lv_at hl 1 rfl) ?_
          refine lv_imul C.1 C.2.1 dL_step_138 ?_
          refine lv_topi (fun z_93 ez_93 => ?_)
          have ez_93 := ez_93.trans (show _ = nI (2 * (x % 6)) by exact pk_mul 2 (x % 6))
          subst ez_93
          refine hv_ialdN (i := 2 * (x % 6)) C I fT (by omega) (by decide) dL_step_139 ?_
          refine lv_topi (fun z_94 ez_94 => ?_)
          have ez_94 := ez_94.trans (show _ = nI (y % 31) by exact (upd_ne (by omega)).trans upd_eq)
          subst ez_94
          refine lv_aload C.1 C.2.1 dL_step_140 (lv_at hl 8 rfl) ?_
          refine lv_iconst (v := 2) C.1 C.2.1 dL_step_142 (by decide) ?_
          refine lv_iload C.1 C.2.1 dL_step_143 (lv_at hl 1 rfl) ?_
          refine lv_imul C.1 C.2.1 dL_step_145 ?_
          refine lv_topi (fun z_95 ez_95 => ?_)
          have ez_95 := ez_95.trans (show _ = nI (2 * (x % 6)) by exact pk_mul 2 (x % 6))
          subst ez_95
          refine lv_iconst (v := 1) C.1 C.2.1 dL_step_146 (by decide) ?_
          refine lv_iadd C.1 C.2.1 dL_step_147 ?_
          refine lv_topi (fun z_96 ez_96 => ?_)
          have ez_96 := ez_96.trans (show _ = nI ((2 * (x % 6)) + 1) by exact nI_add (2 * (x % 6)) 1)
          subst ez_96
          refine hv_ialdN (i := (2 * (x % 6)) + 1) C I fT (by omega) (by decide) dL_step_148 ?_
          refine lv_topi (fun z_97 ez_97 => ?_)
          have ez_97 := ez_97.trans (show _ = nI (y / 31 % 31) by exact upd_eq)
          subst ez_97
          have hA : lvA aa h_92 := LV.A (G := G) ⟨fH, fT, fP, fC, fZ⟩
          refine hv_ski I (cut_le aa h_92) (va_runV (As := [.int (nI (x % 6)), .int (nI (y % 31)), .int (nI (y / 31 % 31))]) (rest := []) C.fix (k_setTreaty l hlt G (cut aa h_92) _ hD (k := x % 6) (a := y % 31) (b := y / 31 % 31) (by omega) (by omega) (by omega) (v := nI (g (x % 6))) (hR (x % 6) (by omega)).1.1) (cwV 3 C.2.2.2.2.1 gL_step_X4_setTreaty rfl rfl rfl (by decide +kernel) ⟨Nat.le_of_ble_eq_true rfl, Nat.le_of_ble_eq_true rfl⟩) (hv_preV C (I.sub (cut_le aa h_92)) (isD_0 hD) (r := (RX4, TX4, 6)) rfl) rfl rfl hl.1 rfl (lv_room (Nat.le_of_ble_eq_true rfl)) dL_step_149 ⟨Nat.le_of_ble_eq_true rfl, Nat.le_of_ble_eq_true rfl⟩) (fun ru_98 u_98 Ju_98 H locs pu_98 hfr I => ?_)
          obtain ⟨hle, hkp⟩ := cut_aft hA hfr
          have fH9 : Ju_98 (aa 0) = some (.inl (G.2.1 4, 20, .inr (.inl hF))) := (hkp _ (Or.inl rfl)).trans fH
          have fT9 : Ju_98 (aa 1) = some (.inl (G.2.1 0, 12, .inl (upd (upd tF (2 * (x % 6)) (nI (y % 31))) ((2 * (x % 6)) + 1) (nI ((y / 31) % 31))))) := (hkp _ (Or.inr (Or.inl rfl))).trans fT
          have fP9 : Ju_98 (aa 2) = some (.inl (G.2.1 0, 13, .inl pF)) := (hkp _ (Or.inr (Or.inr (Or.inl rfl)))).trans fP
          have fC9 : Ju_98 (aa 3) = some (.inl (G.2.1 0, 3, .inl cF)) := (hkp _ (Or.inr (Or.inr (Or.inr (Or.inl rfl))))).trans fC
          have fZ9 : Ju_98 (aa 4) = some (.inl (G.2.1 4, 1, .inr (.inl zF))) := (hkp _ (Or.inr (Or.inr (Or.inr (Or.inr rfl))))).trans fZ
          have fH := fH9
          have fT := fT9
          have fP := fP9
          have fC := fC9
          have fZ := fZ9
          obtain ⟨e2, hD2⟩ := pu_98; have e2 := e2.symm; subst e2
          have hD : isD G (cut aa Ju_98) ad n d d (nI t) rf (va_up (va_up ar 1 (upd (ar 1) (x % 6) (nI (y % 31)))) 2 (upd (ar 2) (x % 6) (nI (y / 31 % 31)))) fm po := isD_le hle hD2
          refine lv_iload C.1 C.2.1 dL_step_152 (lv_at hl 0 rfl) ?_
          refine lv_icmp_ne (tgt := 161) C.1 C.2.1 dL_step_154 (by decide) (fun c154 => ?_) (fun c154 => ?_)
          · exact absurd rfl c154
          · refine lv_iconst (v := 1) C.1 C.2.1 dL_step_157 (by decide) ?_
            refine lv_goto (tgt := 162) C.1 C.2.1 dL_step_158 (by decide) ?_
            exact hv_zret (v := 1) C hr I rfl (⟨rfl, inv_mk hD (hN.treaty (k := x % 6) (a := y % 31) (b := y / 31 % 31) (by omega) (by omega) (by omega)) ⟨fH, fT, fP, fC, fZ⟩⟩) dL_step_162 (Nat.le_of_ble_eq_true rfl) (Nat.le_of_ble_eq_true rfl)
      · have c33 : ¬ (5 ≤ w) := fun z => c33 ((nI_leI (a := 5) (b := w) (by omega) (by omega)).mpr z)
        refine lv_aload_n C.1 C.2.1 dL_step_36 rfl (lv_at hl 1 rfl) ?_
        refine lv_iload C.1 C.2.1 dL_step_37 (lv_at hl 0 rfl) ?_
        refine lv_iload_n C.1 C.2.1 dL_step_39 rfl (lv_at hl 4 rfl) ?_
        refine lv_iconst (v := 4) C.1 C.2.1 dL_step_40 (by decide) ?_
        refine lv_irem C.1 C.2.1 dL_step_41 (by decide) ?_
        refine lv_topi (fun z_99 ez_99 => ?_)
        have ez_99 := ez_99.trans (show _ = nI (y % 4) by exact pk_rem (a := y) (d := 4) (by omega) (by decide) (by decide))
        subst ez_99
        refine lv_if_ne (tgt := 49) C.1 C.2.1 dL_step_42 (by decide) (fun c42 => ?_) (fun c42 => ?_)
        · have c42 : ¬ (y % 4 = 0) := fun z => c42 ((nI_eq (a := y % 4) (b := 0) (by omega) (by omega)).mpr z)
          refine lv_iload_n C.1 C.2.1 dL_step_49 rfl (lv_at hl 4 rfl) ?_
          refine lv_iconst (v := 4) C.1 C.2.1 dL_step_50 (by decide) ?_
          refine lv_irem C.1 C.2.1 dL_step_51 (by decide) ?_
          refine lv_topi (fun z_100 ez_100 => ?_)
          have ez_100 := ez_100.trans (show _ = nI (y % 4) by exact pk_rem (a := y) (d := 4) (by omega) (by decide) (by decide))
          subst ez_100
          refine lv_iconst (v := 1) C.1 C.2.1 dL_step_52 (by decide) ?_
          refine lv_icmp_ne (tgt := 69) C.1 C.2.1 dL_step_53 (by decide) (fun c53 => ?_) (fun c53 => ?_)
          · have c53 : ¬ (y % 4 = 1) := fun z => c53 ((nI_eq (a := y % 4) (b := 1) (by omega) (by omega)).mpr z)
            refine lv_iload_n C.1 C.2.1 dL_step_69 rfl (lv_at hl 4 rfl) ?_
            refine lv_iconst (v := 4) C.1 C.2.1 dL_step_70 (by decide) ?_
            refine lv_idiv C.1 C.2.1 dL_step_71 (by decide) ?_
            refine lv_topi (fun z_101 ez_101 => ?_)
            have ez_101 := ez_101.trans (show _ = nI (y / 4) by exact pk_div (a := y) (d := 4) (by omega) (by decide) (by decide))
            subst ez_101
            refine lv_ldc C.1 C.2.1 C.2.2.2.1 (C.ts (w := .constant RL 109 (300001)) (by decide +kernel)) dL_step_72 ?_
            refine lv_irem C.1 C.2.1 dL_step_74 (by decide) ?_
            refine lv_topi (fun z_102 ez_102 => ?_)
            have ez_102 := ez_102.trans (show _ = nI ((y / 4) % 300001) by exact pk_rem (a := y / 4) (d := 300001) (by omega) (by decide) (by decide))
            subst ez_102
            refine lv_aload C.1 C.2.1 dL_step_75 (lv_at hl 5 rfl) ?_
            refine lv_aload C.1 C.2.1 dL_step_77 (lv_at hl 8 rfl) ?_
            refine hv_ki I (va_runS (As := [.ref (ad 0 0), .int (nI k), .int (nI ((y / 4) % 300001)), .ref (aa 0), .ref (aa 3)]) (rest := []) C.fix (c_L_shares l G h _ hlt hD ⟨fH, fT, fP, fC, fZ⟩ hN hk (v := (y / 4) % 300001) (by omega)) (va_cwS 5 C.2.2.2.2.1 gL_step_L_shares rfl rfl rfl (by decide +kernel) ⟨Nat.le_of_ble_eq_true rfl, Nat.le_of_ble_eq_true rfl⟩) (hv_preS C I) rfl rfl hl.1 rfl (lv_room (Nat.le_of_ble_eq_true rfl)) dL_step_79 ⟨Nat.le_of_ble_eq_true rfl, Nat.le_of_ble_eq_true rfl⟩) (fun ru_103 u_103 H locs pu_103 I => ?_)
            obtain ⟨e2, hI⟩ := pu_103; have e2 := e2.symm; subst e2
            exact hv_zret (v := 1) C hr I rfl (⟨rfl, hI⟩) dL_step_82 (Nat.le_of_ble_eq_true rfl) (Nat.le_of_ble_eq_true rfl)
          · have c53 : y % 4 = 1 := (nI_eq (a := y % 4) (b := 1) (by omega) (by omega)).mp c53
            refine lv_ldc C.1 C.2.1 C.2.2.2.1 (C.ts (w := .constant RL 36 (100000)) (by decide +kernel)) dL_step_56 ?_
            refine lv_iload_n C.1 C.2.1 dL_step_58 rfl (lv_at hl 4 rfl) ?_
            refine lv_iconst (v := 4) C.1 C.2.1 dL_step_59 (by decide) ?_
            refine lv_idiv C.1 C.2.1 dL_step_60 (by decide) ?_
            refine lv_topi (fun z_104 ez_104 => ?_)
            have ez_104 := ez_104.trans (show _ = nI (y / 4) by exact pk_div (a := y) (d := 4) (by omega) (by decide) (by decide))
            subst ez_104
            refine lv_iconst (v := 3) C.1 C.2.1 dL_step_61 (by decide) ?_
            refine lv_irem C.1 C.2.1 dL_step_62 (by decide) ?_
            refine lv_topi (fun z_105 ez_105 => ?_)
            have ez_105 := ez_105.trans (show _ = nI ((y / 4) % 3) by exact pk_rem (a := y / 4) (d := 3) (by omega) (by decide) (by decide))
            subst ez_105
            refine lv_iadd C.1 C.2.1 dL_step_63 ?_
            refine lv_topi (fun z_106 ez_106 => ?_)
            have ez_106 := ez_106.trans (show _ = nI (100000 + ((y / 4) % 3)) by exact nI_add 100000 ((y / 4) % 3))
            subst ez_106
            refine lv_iconst (v := 1) C.1 C.2.1 dL_step_64 (by decide) ?_
            refine lv_isub C.1 C.2.1 dL_step_65 ?_
            refine lv_topi (fun z_107 ez_107 => ?_)
            have ez_107 := ez_107.trans (show _ = nI ((100000 + ((y / 4) % 3)) - 1) by exact pk_sub (a := (100000 + ((y / 4) % 3))) (b := 1) (by omega))
            subst ez_107
            refine lv_goto (tgt := 75) C.1 C.2.1 dL_step_66 (by decide) ?_
            refine lv_aload C.1 C.2.1 dL_step_75 (lv_at hl 5 rfl) ?_
            refine lv_aload C.1 C.2.1 dL_step_77 (lv_at hl 8 rfl) ?_
            refine hv_ki I (va_runS (As := [.ref (ad 0 0), .int (nI k), .int (nI ((100000 + ((y / 4) % 3)) - 1)), .ref (aa 0), .ref (aa 3)]) (rest := []) C.fix (c_L_shares l G h _ hlt hD ⟨fH, fT, fP, fC, fZ⟩ hN hk (v := (100000 + ((y / 4) % 3)) - 1) (by omega)) (va_cwS 5 C.2.2.2.2.1 gL_step_L_shares rfl rfl rfl (by decide +kernel) ⟨Nat.le_of_ble_eq_true rfl, Nat.le_of_ble_eq_true rfl⟩) (hv_preS C I) rfl rfl hl.1 rfl (lv_room (Nat.le_of_ble_eq_true rfl)) dL_step_79 ⟨Nat.le_of_ble_eq_true rfl, Nat.le_of_ble_eq_true rfl⟩) (fun ru_108 u_108 H locs pu_108 I => ?_)
            obtain ⟨e2, hI⟩ := pu_108; have e2 := e2.symm; subst e2
            exact hv_zret (v := 1) C hr I rfl (⟨rfl, hI⟩) dL_step_82 (Nat.le_of_ble_eq_true rfl) (Nat.le_of_ble_eq_true rfl)
        · have c42 : y % 4 = 0 := (nI_eq (a := y % 4) (b := 0) (by omega) (by omega)).mp c42
          refine lv_iconst (v := 0) C.1 C.2.1 dL_step_45 (by decide) ?_
          refine lv_goto (tgt := 75) C.1 C.2.1 dL_step_46 (by decide) ?_
          refine lv_aload C.1 C.2.1 dL_step_75 (lv_at hl 5 rfl) ?_
          refine lv_aload C.1 C.2.1 dL_step_77 (lv_at hl 8 rfl) ?_
          refine hv_ki I (va_runS (As := [.ref (ad 0 0), .int (nI k), .int 0, .ref (aa 0), .ref (aa 3)]) (rest := []) C.fix (c_L_shares l G h _ hlt hD ⟨fH, fT, fP, fC, fZ⟩ hN hk (v := 0) (by omega)) (va_cwS 5 C.2.2.2.2.1 gL_step_L_shares rfl rfl rfl (by decide +kernel) ⟨Nat.le_of_ble_eq_true rfl, Nat.le_of_ble_eq_true rfl⟩) (hv_preS C I) rfl rfl hl.1 rfl (lv_room (Nat.le_of_ble_eq_true rfl)) dL_step_79 ⟨Nat.le_of_ble_eq_true rfl, Nat.le_of_ble_eq_true rfl⟩) (fun ru_109 u_109 H locs pu_109 I => ?_)
          obtain ⟨e2, hI⟩ := pu_109; have e2 := e2.symm; subst e2
          exact hv_zret (v := 1) C hr I rfl (⟨rfl, hI⟩) dL_step_82 (Nat.le_of_ble_eq_true rfl) (Nat.le_of_ble_eq_true rfl)
    · have c9 : n = 0 := (nI_eq (a := n) (b := 0) (by omega) (by omega)).mp c9
      refine lv_aload_n C.1 C.2.1 dL_step_12 rfl (lv_at hl 0 rfl) ?_
      refine lv_iload_n C.1 C.2.1 dL_step_13 rfl (lv_at hl 2 rfl) ?_
      refine lv_iload_n C.1 C.2.1 dL_step_14 rfl (lv_at hl 3 rfl) ?_
      refine lv_aload C.1 C.2.1 dL_step_15 (lv_at hl 4 rfl) ?_
      refine lv_aload C.1 C.2.1 dL_step_17 (lv_at hl 7 rfl) ?_
      refine hv_ki I (va_runS (As := [.ref (ad 0 0), .int (nI x), .int (nI y), .ref (aa 0), .ref (aa 3)]) (rest := []) C.fix (c_L_adds l G h _ hlt hD ⟨fH, fT, fP, fC, fZ⟩ hN (by omega) (by omega)) (va_cwS 5 C.2.2.2.2.1 gL_step_L_adds rfl rfl rfl (by decide +kernel) ⟨Nat.le_of_ble_eq_true rfl, Nat.le_of_ble_eq_true rfl⟩) (hv_preS C I) rfl rfl hl.1 rfl (lv_room (Nat.le_of_ble_eq_true rfl)) dL_step_19 ⟨Nat.le_of_ble_eq_true rfl, Nat.le_of_ble_eq_true rfl⟩) (fun ru_110 u_110 H locs pu_110 I => ?_)
      obtain ⟨e2, hI⟩ := pu_110; have e2 := e2.symm; subst e2
      exact hv_zret (v := 1) C hr I rfl (⟨rfl, hI⟩) dL_step_22 (Nat.le_of_ble_eq_true rfl) (Nat.le_of_ble_eq_true rfl)
