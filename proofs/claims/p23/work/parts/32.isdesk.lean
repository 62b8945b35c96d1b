/-! ===== the law looks at the desk ===== -/
set_option maxHeartbeats 4000000 in
set_option maxRecDepth 100000 in
theorem c_L_isDesk (l : Launch) (G : hv_G) (h : hv) (sz : Nat)  (hlt : l.stackTraces = false) {aa : Nat → Nat} {ad : Nat → Nat → Nat} {n d t : Nat} {rf : Int64} {ar : AR} {fm : Nat → Int32} {po : PO} {hF : Nat → Int64} {tF pF cF : Nat → Int32} {zF : Nat → Int64} {kd ld sh fo si g la : Nat → Nat} (hD : isD G (cut aa h) ad n d d (nI t) rf ar fm po) (hL : LV G aa h hF tF pF cF zF) (hN : Nm n d t ar po rf hF tF pF cF zF kd ld sh fo si g la) : hv_Mi l yL_isDesk wsL_isDesk 11 400 1600 9600 G h sz [.ref (ad 0 0), .ref (aa 0), .ref (aa 1), .ref (aa 3), .long rf] (fun r u => u = h ∧ r = 1) := by
  obtain ⟨fH, fT, fP, fC, fZ⟩ := id hL
  obtain ⟨⟨bn, bd, bt⟩, ⟨ec0, ec1, ec2, ez0⟩, hK, hS, hR, hZ, hQ, hP⟩ := id hN
  have hnd : n * d ≤ 20 * 12 := Nat.mul_le_mul bn bd
  refine hv_enter (y := yL_isDesk) (avs := [.ref (ad 0 0), .ref (aa 0), .ref (aa 1), .ref (aa 3), .long rf]) (maxL := 15) (Qf := fun sz => va_Qi (fun r u => u = h ∧ r = 1) (hv_Bq G h sz) (hv_A h sz)) (by decide) rfl rfl (Nat.le_of_ble_eq_true rfl) ?_
  intro p e s m below meth c hr hnm C I ls hl
  have hl : lv_has ls 15 [(0, .ref (ad 0 0)), (1, .ref (aa 0)), (2, .ref (aa 1)), (3, .ref (aa 3)), (4, .long rf)] := hl
  refine lv_aload_n C.1 C.2.1 dL_isDesk_0 rfl (lv_at hl 0 rfl) ?_
  refine hv_ki I (va_runV (As := []) (rest := []) C.fix (c_X4_day l G h _ (isD_le (cut_le aa h) hD)) (cwV 0 C.2.2.2.2.1 gL_isDesk_X4_day rfl rfl rfl (by decide +kernel) ⟨Nat.le_of_ble_eq_true rfl, Nat.le_of_ble_eq_true rfl⟩) (hv_preV C I (isD_0 (isD_le (cut_le aa h) hD)) (r := (RX4, TX4, 6)) rfl) rfl rfl hl.1 rfl (lv_room (Nat.le_of_ble_eq_true rfl)) dL_isDesk_1 ⟨Nat.le_of_ble_eq_true rfl, Nat.le_of_ble_eq_true rfl⟩) (fun ru_1 u_1 H locs pu_1 I => ?_)
  obtain ⟨e1, e2⟩ := pu_1; have e1 := e1.symm; subst e1; have e2 := e2.symm; subst e2
  refine lv_aload_n C.1 C.2.1 dL_isDesk_4 rfl (lv_at hl 3 rfl) ?_
  refine lv_iconst (v := 0) C.1 C.2.1 dL_isDesk_5 (by decide) ?_
  refine hv_ialdN (i := 0) C I fC (by decide) (by decide) dL_isDesk_6 ?_
  refine lv_topi (fun z_2 ez_2 => ?_)
  have ez_2 := ez_2.trans (show _ = nI t by exact ec0)
  subst ez_2
  refine lv_icmp_ne (tgt := 34) C.1 C.2.1 dL_isDesk_7 (by decide) (fun c7 => ?_) (fun c7 => ?_)
  · exact absurd rfl c7
  · refine lv_aload_n C.1 C.2.1 dL_isDesk_10 rfl (lv_at hl 0 rfl) ?_
    refine hv_ki I (va_runV (As := []) (rest := []) C.fix (c_X4_dividends l G h _ (isD_le (cut_le aa h) hD)) (cwV 0 C.2.2.2.2.1 gL_isDesk_X4_dividends rfl rfl rfl (by decide +kernel) ⟨Nat.le_of_ble_eq_true rfl, Nat.le_of_ble_eq_true rfl⟩) (hv_preV C I (isD_0 (isD_le (cut_le aa h) hD)) (r := (RX4, TX4, 6)) rfl) rfl rfl hl.1 rfl (lv_room (Nat.le_of_ble_eq_true rfl)) dL_isDesk_11 ⟨Nat.le_of_ble_eq_true rfl, Nat.le_of_ble_eq_true rfl⟩) (fun ru_3 u_3 H locs pu_3 I => ?_)
    obtain ⟨e1, e2⟩ := pu_3; have e1 := e1.symm; subst e1; have e2 := e2.symm; subst e2
    refine lv_aload_n C.1 C.2.1 dL_isDesk_14 rfl (lv_at hl 3 rfl) ?_
    refine lv_iconst (v := 2) C.1 C.2.1 dL_isDesk_15 (by decide) ?_
    refine hv_ialdN (i := 2) C I fC (by decide) (by decide) dL_isDesk_16 ?_
    refine lv_topi (fun z_4 ez_4 => ?_)
    have ez_4 := ez_4.trans (show _ = nI d by exact ec2)
    subst ez_4
    refine lv_icmp_ne (tgt := 34) C.1 C.2.1 dL_isDesk_17 (by decide) (fun c17 => ?_) (fun c17 => ?_)
    · exact absurd rfl c17
    · refine lv_aload_n C.1 C.2.1 dL_isDesk_20 rfl (lv_at hl 0 rfl) ?_
      refine hv_kl I (va_runV (As := []) (rest := []) C.fix (c_X4_refunded l G h _ (isD_le (cut_le aa h) hD)) (cwV 0 C.2.2.2.2.1 gL_isDesk_X4_refunded rfl rfl rfl (by decide +kernel) ⟨Nat.le_of_ble_eq_true rfl, Nat.le_of_ble_eq_true rfl⟩) (hv_preV C I (isD_0 (isD_le (cut_le aa h) hD)) (r := (RX4, TX4, 6)) rfl) rfl rfl hl.1 rfl (lv_room (Nat.le_of_ble_eq_true rfl)) dL_isDesk_21 ⟨Nat.le_of_ble_eq_true rfl, Nat.le_of_ble_eq_true rfl⟩) (fun ru_5 u_5 H locs pu_5 I => ?_)
      obtain ⟨e1, e2⟩ := pu_5; have e1 := e1.symm; subst e1; have e2 := e2.symm; subst e2
      refine lv_lload C.1 C.2.1 dL_isDesk_24 (lv_at hl 4 rfl) ?_
      refine W.lcmp C.1 C.2.1 dL_isDesk_26 ?_
      refine lv_topi (fun z_6 ez_6 => ?_)
      have ez_6 := ez_6.trans (show _ = 0 by exact lcmp_eq (rfl))
      subst ez_6
      refine lv_if_ne (tgt := 34) C.1 C.2.1 dL_isDesk_27 (by decide) (fun c27 => ?_) (fun c27 => ?_)
      · exact absurd rfl c27
      · refine lv_iconst (v := 1) C.1 C.2.1 dL_isDesk_30 (by decide) ?_
        refine lv_goto (tgt := 35) C.1 C.2.1 dL_isDesk_31 (by decide) ?_
        refine lv_istore (lv' := [(6, .int 1), (0, .ref (ad 0 0)), (1, .ref (aa 0)), (2, .ref (aa 1)), (3, .ref (aa 3)), (4, .long rf)]) C.1 C.2.1 dL_isDesk_35 hl (by decide) rfl (fun ls hl => ?_)
        refine lv_lconst (v := 0) C.1 C.2.1 dL_isDesk_37 (by decide) ?_
        refine lv_lstore (lv' := [(7, .long 0), (6, .int 1), (0, .ref (ad 0 0)), (1, .ref (aa 0)), (2, .ref (aa 1)), (3, .ref (aa 3)), (4, .long rf)]) C.1 C.2.1 dL_isDesk_38 hl (by decide) rfl (fun ls hl => ?_)
        refine lv_iconst (v := 0) C.1 C.2.1 dL_isDesk_40 (by decide) ?_
        refine lv_istore (lv' := [(9, .int 0), (7, .long 0), (6, .int 1), (0, .ref (ad 0 0)), (1, .ref (aa 0)), (2, .ref (aa 1)), (3, .ref (aa 3)), (4, .long rf)]) C.1 C.2.1 dL_isDesk_41 hl (by decide) rfl (fun ls hl => ?_)
        have loop : ∀ (k9 i : Nat), i ≤ n → n + 1 ≤ i + k9 → ∀ (H : Heap) (locs : List Loc), hv_I G h s h H locs → ∀ ls : Array Slot, lv_has ls 15 [(9, .int (nI i)), (7, .long 0), (6, .int 1), (0, .ref (ad 0 0)), (1, .ref (aa 0)), (2, .ref (aa 1)), (3, .ref (aa 3)), (4, .long rf)] → W p l e (hv_rm 11 1600 9600 400) s m (([.ref (ad 0 0), .ref (aa 0), .ref (aa 1), .ref (aa 3), .long rf] : List Value).toArray) below meth c H locs (0 + 8 * i) (0 + 48 * i) (MQ below (va_Qi (fun r u => u = h ∧ r = 1) (hv_Bq G h s.heap.size) (hv_A h s.heap.size)) (([.ref (ad 0 0), .ref (aa 0), .ref (aa 1), .ref (aa 3), .long rf] : List Value).toArray) s 1600 9600 (hv_A h s.heap.size)) (F0 m 43 ls []) := by
          intro k9
          induction k9 with
          | zero => intro i hi hin; exact absurd hin (by omega)
          | succ k9 loop_ih =>
            intro i hi hin H locs I ls hl
            refine lv_iload C.1 C.2.1 dL_isDesk_43 (lv_at hl 0 rfl) ?_
            refine lv_aload_n C.1 C.2.1 dL_isDesk_45 rfl (lv_at hl 6 rfl) ?_
            refine lv_iconst (v := 1) C.1 C.2.1 dL_isDesk_46 (by decide) ?_
            refine hv_ialdN (i := 1) C I fC (by decide) (by decide) dL_isDesk_47 ?_
            refine lv_topi (fun z_7 ez_7 => ?_)
            have ez_7 := ez_7.trans (show _ = nI n by exact ec1)
            subst ez_7
            refine lv_icmp_ge (tgt := 165) C.1 C.2.1 dL_isDesk_48 (by decide) (fun c48 => ?_) (fun c48 => ?_)
            · have c48 : n ≤ i := (nI_leI (a := n) (b := i) (by omega) (by omega)).mp c48
              refine W.widen (k := 160) (n := 960) (by omega) (by omega) ?_
              refine lv_iconst (v := 0) C.1 C.2.1 dL_isDesk_165 (by decide) ?_
              refine lv_istore (lv' := [(9, .int 0), (7, .long 0), (6, .int 1), (0, .ref (ad 0 0)), (1, .ref (aa 0)), (2, .ref (aa 1)), (3, .ref (aa 3)), (4, .long rf)]) C.1 C.2.1 dL_isDesk_166 hl (by decide) rfl (fun ls hl => ?_)
              have loop2 : ∀ (k9 q : Nat), q ≤ (n * d) → (n * d) + 1 ≤ q + k9 → ∀ (H : Heap) (locs : List Loc), hv_I G h s h H locs → ∀ ls : Array Slot, lv_has ls 15 [(9, .int (nI q)), (7, .long (hsN (ar 12) (ar 13) n q)), (6, .int 1), (0, .ref (ad 0 0)), (1, .ref (aa 0)), (2, .ref (aa 1)), (3, .ref (aa 3)), (4, .long rf)] → W p l e (hv_rm 11 1600 9600 400) s m (([.ref (ad 0 0), .ref (aa 0), .ref (aa 1), .ref (aa 3), .long rf] : List Value).toArray) below meth c H locs (160 + 6 * q) (960 + 36 * q) (MQ below (va_Qi (fun r u => u = h ∧ r = 1) (hv_Bq G h s.heap.size) (hv_A h s.heap.size)) (([.ref (ad 0 0), .ref (aa 0), .ref (aa 1), .ref (aa 3), .long rf] : List Value).toArray) s 1600 9600 (hv_A h s.heap.size)) (F0 m 168 ls []) := by
                intro k9
                induction k9 with
                | zero => intro q hq hin; exact absurd hin (by omega)
                | succ k9 loop2_ih =>
                  intro q hq hin H locs I ls hl
                  refine lv_iload C.1 C.2.1 dL_isDesk_168 (lv_at hl 0 rfl) ?_
                  refine lv_aload_n C.1 C.2.1 dL_isDesk_170 rfl (lv_at hl 6 rfl) ?_
                  refine lv_iconst (v := 1) C.1 C.2.1 dL_isDesk_171 (by decide) ?_
                  refine hv_ialdN (i := 1) C I fC (by decide) (by decide) dL_isDesk_172 ?_
                  refine lv_topi (fun z_8 ez_8 => ?_)
                  have ez_8 := ez_8.trans (show _ = nI n by exact ec1)
                  subst ez_8
                  refine lv_aload_n C.1 C.2.1 dL_isDesk_173 rfl (lv_at hl 6 rfl) ?_
                  refine lv_iconst (v := 2) C.1 C.2.1 dL_isDesk_174 (by decide) ?_
                  refine hv_ialdN (i := 2) C I fC (by decide) (by decide) dL_isDesk_175 ?_
                  refine lv_topi (fun z_9 ez_9 => ?_)
                  have ez_9 := ez_9.trans (show _ = nI d by exact ec2)
                  subst ez_9
                  refine lv_imul C.1 C.2.1 dL_isDesk_176 ?_
                  refine lv_topi (fun z_10 ez_10 => ?_)
                  have ez_10 := ez_10.trans (show _ = nI (n * d) by exact pk_mul n d)
                  subst ez_10
                  refine lv_icmp_ge (tgt := 286) C.1 C.2.1 dL_isDesk_177 (by decide) (fun c177 => ?_) (fun c177 => ?_)
                  · have c177 : n * d ≤ q := (nI_leI (a := n * d) (b := q) (by omega) (by omega)).mp c177
                    have eq177 : q = n * d := by omega
                    refine lv_iload C.1 C.2.1 dL_isDesk_286 (lv_at hl 2 rfl) ?_
                    refine lv_if_eq (tgt := 305) C.1 C.2.1 dL_isDesk_288 (by decide) (fun c288 => ?_) (fun c288 => ?_)
                    · exact absurd c288 (by decide)
                    · refine lv_aload_n C.1 C.2.1 dL_isDesk_291 rfl (lv_at hl 3 rfl) ?_
                      refine hv_kl I (va_runV (As := []) (rest := []) C.fix (c_X4_heldInAll l G h _ (isD_le (cut_le aa h) hD) (Nat.le_refl d) (by omega)) (cwV 0 C.2.2.2.2.1 gL_isDesk_X4_heldInAll rfl rfl rfl (by decide +kernel) ⟨Nat.le_of_ble_eq_true rfl, Nat.le_of_ble_eq_true rfl⟩) (hv_preV C I (isD_0 (isD_le (cut_le aa h) hD)) (r := (RX4, TX4, 6)) rfl) rfl rfl hl.1 rfl (lv_room (Nat.le_of_ble_eq_true rfl)) dL_isDesk_292 ⟨by show _ ≤ 1600; omega, by show _ ≤ 9600; omega⟩) (fun ru_11 u_11 H locs pu_11 I => ?_)
                      obtain ⟨e1, e2⟩ := pu_11; have e1 := e1.symm; subst e1; have e2 := e2.symm; subst e2
                      refine lv_lload C.1 C.2.1 dL_isDesk_295 (lv_at hl 1 rfl) ?_
                      refine W.lcmp C.1 C.2.1 dL_isDesk_297 ?_
                      refine lv_topi (fun z_12 ez_12 => ?_)
                      have ez_12 := ez_12.trans (show _ = 0 by exact lcmp_eq ((by rw [eq177]; exact (hsN_all bn d hN.gz).symm)))
                      subst ez_12
                      refine lv_if_ne (tgt := 305) C.1 C.2.1 dL_isDesk_298 (by decide) (fun c298 => ?_) (fun c298 => ?_)
                      · exact absurd rfl c298
                      · refine lv_iconst (v := 1) C.1 C.2.1 dL_isDesk_301 (by decide) ?_
                        refine lv_goto (tgt := 306) C.1 C.2.1 dL_isDesk_302 (by decide) ?_
                        exact hv_zret (v := 1) C hr I rfl (⟨rfl, rfl⟩) dL_isDesk_306 (by omega) (by omega)
                  · have c177 : ¬ (n * d ≤ q) := fun z => c177 ((nI_leI (a := n * d) (b := q) (by omega) (by omega)).mpr z)
                    have hn0 : 0 < n := by
                      rcases Nat.eq_zero_or_pos n with z | z
                      · rw [z, Nat.zero_mul] at c177; omega
                      · exact z
                    have hq1 : q / n < d := Nat.div_lt_of_lt_mul (by omega)
                    have hq2 : q % n < n := Nat.mod_lt _ hn0
                    obtain ⟨HH, DD, AA, w1, w2, w3, w4, w5, w6⟩ := hN.at hq1 hq2
                    refine lv_iload C.1 C.2.1 dL_isDesk_180 (lv_at hl 2 rfl) ?_
                    refine lv_if_eq (tgt := 286) C.1 C.2.1 dL_isDesk_182 (by decide) (fun c182 => ?_) (fun c182 => ?_)
                    · exact absurd c182 (by decide)
                    · refine lv_iload C.1 C.2.1 dL_isDesk_185 (lv_at hl 0 rfl) ?_
                      refine lv_aload_n C.1 C.2.1 dL_isDesk_187 rfl (lv_at hl 6 rfl) ?_
                      refine lv_iconst (v := 1) C.1 C.2.1 dL_isDesk_188 (by decide) ?_
                      refine hv_ialdN (i := 1) C I fC (by decide) (by decide) dL_isDesk_189 ?_
                      refine lv_topi (fun z_13 ez_13 => ?_)
                      have ez_13 := ez_13.trans (show _ = nI n by exact ec1)
                      subst ez_13
                      refine lv_idiv C.1 C.2.1 dL_isDesk_190 (nI_ne0 (by omega) (by omega)) ?_
                      refine lv_topi (fun z_14 ez_14 => ?_)
                      have ez_14 := ez_14.trans (show _ = nI (q / n) by exact pk_div (a := q) (d := n) (by omega) (by omega) (by omega))
                      subst ez_14
                      refine lv_istore (lv' := [(10, .int (nI (q / n))), (9, .int (nI q)), (7, .long (hsN (ar 12) (ar 13) n q)), (6, .int 1), (0, .ref (ad 0 0)), (1, .ref (aa 0)), (2, .ref (aa 1)), (3, .ref (aa 3)), (4, .long rf)]) C.1 C.2.1 dL_isDesk_191 hl (by decide) rfl (fun ls hl => ?_)
                      refine lv_aload_n C.1 C.2.1 dL_isDesk_193 rfl (lv_at hl 4 rfl) ?_
                      refine lv_iload C.1 C.2.1 dL_isDesk_194 (lv_at hl 0 rfl) ?_
                      refine lv_iload C.1 C.2.1 dL_isDesk_196 (lv_at hl 1 rfl) ?_
                      refine lv_aload_n C.1 C.2.1 dL_isDesk_198 rfl (lv_at hl 7 rfl) ?_
                      refine lv_iconst (v := 1) C.1 C.2.1 dL_isDesk_199 (by decide) ?_
                      refine hv_ialdN (i := 1) C I fC (by decide) (by decide) dL_isDesk_200 ?_
                      refine lv_topi (fun z_15 ez_15 => ?_)
                      have ez_15 := ez_15.trans (show _ = nI n by exact ec1)
                      subst ez_15
                      refine lv_irem C.1 C.2.1 dL_isDesk_201 (nI_ne0 (by omega) (by omega)) ?_
                      refine lv_topi (fun z_16 ez_16 => ?_)
                      have ez_16 := ez_16.trans (show _ = nI (q % n) by exact pk_rem (a := q) (d := n) (by omega) (by omega) (by omega))
                      subst ez_16
                      refine hv_ki I (va_runV (As := [.int (nI (q / n)), .int (nI (q % n))]) (rest := []) C.fix (k_held l hlt G h _ (isD_le (cut_le aa h) hD) bn (Nat.le_refl _) (by omega) hP.2.1 hq1 hq2 (v := nI HH) w1) (cwV 2 C.2.2.2.2.1 gL_isDesk_X4_held rfl rfl rfl (by decide +kernel) ⟨Nat.le_of_ble_eq_true rfl, Nat.le_of_ble_eq_true rfl⟩) (hv_preV C I (isD_0 (isD_le (cut_le aa h) hD)) (r := (RX4, TX4, 6)) rfl) rfl rfl hl.1 rfl (lv_room (Nat.le_of_ble_eq_true rfl)) dL_isDesk_202 ⟨by show _ ≤ 1600; omega, by show _ ≤ 9600; omega⟩) (fun ru_17 u_17 H locs pu_17 I => ?_)
                      obtain ⟨e1, e2⟩ := pu_17; have e1 := e1.symm; subst e1; have e2 := e2.symm; subst e2
                      refine lv_istore (lv' := [(11, .int (nI HH)), (10, .int (nI (q / n))), (9, .int (nI q)), (7, .long (hsN (ar 12) (ar 13) n q)), (6, .int 1), (0, .ref (ad 0 0)), (1, .ref (aa 0)), (2, .ref (aa 1)), (3, .ref (aa 3)), (4, .long rf)]) C.1 C.2.1 dL_isDesk_205 hl (by decide) rfl (fun ls hl => ?_)
                      refine lv_aload_n C.1 C.2.1 dL_isDesk_207 rfl (lv_at hl 5 rfl) ?_
                      refine lv_iload C.1 C.2.1 dL_isDesk_208 (lv_at hl 1 rfl) ?_
                      refine lv_iload C.1 C.2.1 dL_isDesk_210 (lv_at hl 2 rfl) ?_
                      refine lv_aload_n C.1 C.2.1 dL_isDesk_212 rfl (lv_at hl 8 rfl) ?_
                      refine lv_iconst (v := 1) C.1 C.2.1 dL_isDesk_213 (by decide) ?_
                      refine hv_ialdN (i := 1) C I fC (by decide) (by decide) dL_isDesk_214 ?_
                      refine lv_topi (fun z_18 ez_18 => ?_)
                      have ez_18 := ez_18.trans (show _ = nI n by exact ec1)
                      subst ez_18
                      refine lv_irem C.1 C.2.1 dL_isDesk_215 (nI_ne0 (by omega) (by omega)) ?_
                      refine lv_topi (fun z_19 ez_19 => ?_)
                      have ez_19 := ez_19.trans (show _ = nI (q % n) by exact pk_rem (a := q) (d := n) (by omega) (by omega) (by omega))
                      subst ez_19
                      refine hv_ki I (va_runV (As := [.int (nI (q / n)), .int (nI (q % n))]) (rest := []) C.fix (k_due l hlt G h _ (isD_le (cut_le aa h) hD) bn (Nat.le_refl _) (by omega) hP.2.1 hq1 hq2 (v := nI DD) w2) (cwV 2 C.2.2.2.2.1 gL_isDesk_X4_due rfl rfl rfl (by decide +kernel) ⟨Nat.le_of_ble_eq_true rfl, Nat.le_of_ble_eq_true rfl⟩) (hv_preV C I (isD_0 (isD_le (cut_le aa h) hD)) (r := (RX4, TX4, 6)) rfl) rfl rfl hl.1 rfl (lv_room (Nat.le_of_ble_eq_true rfl)) dL_isDesk_216 ⟨by show _ ≤ 1600; omega, by show _ ≤ 9600; omega⟩) (fun ru_20 u_20 H locs pu_20 I => ?_)
                      obtain ⟨e1, e2⟩ := pu_20; have e1 := e1.symm; subst e1; have e2 := e2.symm; subst e2
                      refine lv_istore (lv' := [(12, .int (nI DD)), (11, .int (nI HH)), (10, .int (nI (q / n))), (9, .int (nI q)), (7, .long (hsN (ar 12) (ar 13) n q)), (6, .int 1), (0, .ref (ad 0 0)), (1, .ref (aa 0)), (2, .ref (aa 1)), (3, .ref (aa 3)), (4, .long rf)]) C.1 C.2.1 dL_isDesk_219 hl (by decide) rfl (fun ls hl => ?_)
                      refine lv_aload_n C.1 C.2.1 dL_isDesk_221 rfl (lv_at hl 6 rfl) ?_
                      refine lv_iload C.1 C.2.1 dL_isDesk_222 (lv_at hl 2 rfl) ?_
                      refine lv_iload C.1 C.2.1 dL_isDesk_224 (lv_at hl 3 rfl) ?_
                      refine lv_aload_n C.1 C.2.1 dL_isDesk_226 rfl (lv_at hl 9 rfl) ?_
                      refine lv_iconst (v := 1) C.1 C.2.1 dL_isDesk_227 (by decide) ?_
                      refine hv_ialdN (i := 1) C I fC (by decide) (by decide) dL_isDesk_228 ?_
                      refine lv_topi (fun z_21 ez_21 => ?_)
                      have ez_21 := ez_21.trans (show _ = nI n by exact ec1)
                      subst ez_21
                      refine lv_irem C.1 C.2.1 dL_isDesk_229 (nI_ne0 (by omega) (by omega)) ?_
                      refine lv_topi (fun z_22 ez_22 => ?_)
                      have ez_22 := ez_22.trans (show _ = nI (q % n) by exact pk_rem (a := q) (d := n) (by omega) (by omega) (by omega))
                      subst ez_22
                      refine hv_ki I (va_runV (As := [.int (nI (q / n)), .int (nI (q % n))]) (rest := []) C.fix (k_gross l hlt G h _ (isD_le (cut_le aa h) hD) bn (Nat.le_refl _) (by omega) hP.2.1 hq1 hq2 (v := nI AA) w3) (cwV 2 C.2.2.2.2.1 gL_isDesk_X4_gross rfl rfl rfl (by decide +kernel) ⟨Nat.le_of_ble_eq_true rfl, Nat.le_of_ble_eq_true rfl⟩) (hv_preV C I (isD_0 (isD_le (cut_le aa h) hD)) (r := (RX4, TX4, 6)) rfl) rfl rfl hl.1 rfl (lv_room (Nat.le_of_ble_eq_true rfl)) dL_isDesk_230 ⟨by show _ ≤ 1600; omega, by show _ ≤ 9600; omega⟩) (fun ru_23 u_23 H locs pu_23 I => ?_)
                      obtain ⟨e1, e2⟩ := pu_23; have e1 := e1.symm; subst e1; have e2 := e2.symm; subst e2
                      refine lv_i2l C.1 C.2.1 dL_isDesk_233 rfl ?_
                      refine lv_topl (fun z_24 ez_24 => ?_)
                      have ez_24 := ez_24.trans (show _ = lN AA by exact nI_l (n := AA) (by omega))
                      subst ez_24
                      refine lv_lstore (lv' := [(13, .long (lN AA)), (12, .int (nI DD)), (11, .int (nI HH)), (10, .int (nI (q / n))), (9, .int (nI q)), (7, .long (hsN (ar 12) (ar 13) n q)), (6, .int 1), (0, .ref (ad 0 0)), (1, .ref (aa 0)), (2, .ref (aa 1)), (3, .ref (aa 3)), (4, .long rf)]) C.1 C.2.1 dL_isDesk_234 hl (by decide) rfl (fun ls hl => ?_)
                      refine lv_lload C.1 C.2.1 dL_isDesk_236 (lv_at hl 5 rfl) ?_
                      refine lv_iload C.1 C.2.1 dL_isDesk_238 (lv_at hl 2 rfl) ?_
                      refine lv_i2l C.1 C.2.1 dL_isDesk_240 rfl ?_
                      refine lv_ladd C.1 C.2.1 dL_isDesk_241 ?_
                      refine lv_topl (fun z_25 ez_25 => ?_)
                      have ez_25 := ez_25.trans (show _ = hsN (ar 12) (ar 13) n (q + 1) by rw [← w1]; rfl)
                      subst ez_25
                      refine lv_lstore (lv' := [(7, .long (hsN (ar 12) (ar 13) n (q + 1))), (13, .long (lN AA)), (12, .int (nI DD)), (11, .int (nI HH)), (10, .int (nI (q / n))), (9, .int (nI q)), (6, .int 1), (0, .ref (ad 0 0)), (1, .ref (aa 0)), (2, .ref (aa 1)), (3, .ref (aa 3)), (4, .long rf)]) C.1 C.2.1 dL_isDesk_242 hl (by decide) rfl (fun ls hl => ?_)
                      refine lv_iload C.1 C.2.1 dL_isDesk_244 (lv_at hl 2 rfl) ?_
                      refine lv_if_lt (tgt := 277) C.1 C.2.1 dL_isDesk_246 (by decide) (fun c246 => ?_) (fun c246 => ?_)
                      · have c246 : DD < 0 := (nI_ltI (a := DD) (b := 0) (by omega) (by omega)).mp c246
                        exfalso
                        omega
                      · have c246 : ¬ (DD < 0) := fun z => c246 ((nI_ltI (a := DD) (b := 0) (by omega) (by omega)).mpr z)
                        refine lv_iload C.1 C.2.1 dL_isDesk_249 (lv_at hl 2 rfl) ?_
                        refine lv_iload C.1 C.2.1 dL_isDesk_251 (lv_at hl 3 rfl) ?_
                        refine lv_icmp_gt (tgt := 277) C.1 C.2.1 dL_isDesk_253 (by decide) (fun c253 => ?_) (fun c253 => ?_)
                        · have c253 : HH < DD := (nI_ltI (a := HH) (b := DD) (by omega) (by omega)).mp c253
                          exfalso
                          omega
                        · have c253 : ¬ (HH < DD) := fun z => c253 ((nI_ltI (a := HH) (b := DD) (by omega) (by omega)).mpr z)
                          refine lv_iload C.1 C.2.1 dL_isDesk_256 (lv_at hl 3 rfl) ?_
                          refine lv_i2l C.1 C.2.1 dL_isDesk_258 rfl ?_
                          refine lv_topl (fun z_26 ez_26 => ?_)
                          have ez_26 := ez_26.trans (show _ = lN HH by exact nI_l (n := HH) (by omega))
                          subst ez_26
                          refine lv_lload C.1 C.2.1 dL_isDesk_259 (lv_at hl 1 rfl) ?_
                          refine lv_ldc2 C.1 C.2.1 C.2.2.2.1 (C.ts (w := .constantLong RL 77 (30)) (by decide +kernel)) dL_isDesk_261 ?_
                          refine lv_lmul C.1 C.2.1 dL_isDesk_264 ?_
                          refine lv_topl (fun z_27 ez_27 => ?_)
                          have ez_27 := ez_27.trans (show _ = lN (AA * 30) by exact lN_mul AA 30)
                          subst ez_27
                          refine lv_ldc2 C.1 C.2.1 C.2.2.2.1 (C.ts (w := .constantLong RL 79 (100)) (by decide +kernel)) dL_isDesk_265 ?_
                          refine lv_ldiv C.1 C.2.1 dL_isDesk_268 (by decide) ?_
                          refine lv_topl (fun z_28 ez_28 => ?_)
                          have ez_28 := ez_28.trans (show _ = lN ((AA * 30) / 100) by exact pk_lDiv (a := AA * 30) (b := 100) (by omega) (by decide) (by decide))
                          subst ez_28
                          refine W.lcmp C.1 C.2.1 dL_isDesk_269 ?_
                          refine lv_if_gt (tgt := 277) C.1 C.2.1 dL_isDesk_270 (by decide) (fun c270 => ?_) (fun c270 => ?_)
                          · exact absurd ((lcmp_N (a := HH) (b := AA * 30 / 100) (by omega) (by omega)).1.mp c270) (by omega)
                          · refine lv_iconst (v := 1) C.1 C.2.1 dL_isDesk_273 (by decide) ?_
                            refine lv_goto (tgt := 278) C.1 C.2.1 dL_isDesk_274 (by decide) ?_
                            refine lv_istore (lv' := [(6, .int 1), (7, .long (hsN (ar 12) (ar 13) n (q + 1))), (13, .long (lN AA)), (12, .int (nI DD)), (11, .int (nI HH)), (10, .int (nI (q / n))), (9, .int (nI q)), (0, .ref (ad 0 0)), (1, .ref (aa 0)), (2, .ref (aa 1)), (3, .ref (aa 3)), (4, .long rf)]) C.1 C.2.1 dL_isDesk_278 hl (by decide) rfl (fun ls hl => ?_)
                            refine lv_iinc (v := nI (q + 1)) (lv' := [(9, .int (nI (q + 1))), (6, .int 1), (7, .long (hsN (ar 12) (ar 13) n (q + 1))), (13, .long (lN AA)), (12, .int (nI DD)), (11, .int (nI HH)), (10, .int (nI (q / n))), (0, .ref (ad 0 0)), (1, .ref (aa 0)), (2, .ref (aa 1)), (3, .ref (aa 3)), (4, .long rf)]) C.1 C.2.1 dL_isDesk_280 hl (k := 6) rfl (nI_1 q) (by decide) rfl (fun ls hl => ?_)
                            refine lv_goto (tgt := 168) C.1 C.2.1 dL_isDesk_283 (by decide) ?_
                            refine W.widen (k := 160 + 6 * (q + 1)) (n := 960 + 36 * (q + 1)) (by omega) (by omega) ?_
                            exact loop2_ih (q + 1) (by omega) (by omega) _ _ I ls (lv_sub hl [0, 2, 1, 7, 8, 9, 10, 11] rfl)
              refine W.widen (k := 160 + 6 * 0) (n := 960 + 36 * 0) (by omega) (by omega) ?_
              exact loop2 ((n * d) + 1) 0 (Nat.zero_le _) (by omega) _ _ I ls (lv_sub hl [0, 1, 2, 3, 4, 5, 6, 7] rfl)
            · have c48 : ¬ (n ≤ i) := fun z => c48 ((nI_leI (a := n) (b := i) (by omega) (by omega)).mpr z)
              have hi48 : i < n := by omega
              have hKi := hK i hi48
              obtain ⟨_, _, q1, q2, q3, q4⟩ := id hKi
              have qk : kd i ≤ 2 := by omega
              refine lv_iload C.1 C.2.1 dL_isDesk_51 (lv_at hl 2 rfl) ?_
              refine lv_if_eq (tgt := 165) C.1 C.2.1 dL_isDesk_53 (by decide) (fun c53 => ?_) (fun c53 => ?_)
              · exact absurd c53 (by decide)
              · refine lv_aload_n C.1 C.2.1 dL_isDesk_56 rfl (lv_at hl 3 rfl) ?_
                refine lv_iload C.1 C.2.1 dL_isDesk_57 (lv_at hl 0 rfl) ?_
                refine hv_ki I (va_runV (As := [.int (nI i)]) (rest := []) C.fix (k_shares l hlt G h _ (isD_le (cut_le aa h) hD) bn hi48  (v := nI (sh i)) hKi.1.2.2.1) (cwV 1 C.2.2.2.2.1 gL_isDesk_X4_shares rfl rfl rfl (by decide +kernel) ⟨Nat.le_of_ble_eq_true rfl, Nat.le_of_ble_eq_true rfl⟩) (hv_preV C I (isD_0 (isD_le (cut_le aa h) hD)) (r := (RX4, TX4, 6)) rfl) rfl rfl hl.1 rfl (lv_room (Nat.le_of_ble_eq_true rfl)) dL_isDesk_59 ⟨by show _ ≤ 1600; omega, by show _ ≤ 9600; omega⟩) (fun ru_29 u_29 H locs pu_29 I => ?_)
                obtain ⟨e1, e2⟩ := pu_29; have e1 := e1.symm; subst e1; have e2 := e2.symm; subst e2
                refine lv_aload_n C.1 C.2.1 dL_isDesk_62 rfl (lv_at hl 4 rfl) ?_
                refine lv_iload C.1 C.2.1 dL_isDesk_63 (lv_at hl 0 rfl) ?_
                refine hv_laldN (i := i) C I fH (by omega) (by decide) dL_isDesk_65 ?_
                refine lv_iconst (v := 5) C.1 C.2.1 dL_isDesk_66 (by decide) ?_
                refine lv_bipush (v := 20) C.1 C.2.1 dL_isDesk_67 (by decide) ?_
                refine hv_ki I (va_runS (As := [.long (hF i), .int 5, .int 20]) (rest := [.int (nI (sh i))]) C.fix (c_L_part l G h _ (hF i) 5 20 (v := nI (sh i)) hKi.2.1.2.2.1) (va_cwS 3 C.2.2.2.2.1 gL_isDesk_L_part rfl rfl rfl (by decide +kernel) ⟨Nat.le_of_ble_eq_true rfl, Nat.le_of_ble_eq_true rfl⟩) (hv_preS C I) rfl rfl hl.1 rfl (lv_room (Nat.le_of_ble_eq_true rfl)) dL_isDesk_69 ⟨by show _ ≤ 1600; omega, by show _ ≤ 9600; omega⟩) (fun ru_30 u_30 H locs pu_30 I => ?_)
                obtain ⟨e1, e2⟩ := pu_30; have e1 := e1.symm; subst e1; have e2 := e2.symm; subst e2
                refine lv_icmp_ne (tgt := 156) C.1 C.2.1 dL_isDesk_72 (by decide) (fun c72 => ?_) (fun c72 => ?_)
                · exact absurd rfl c72
                · refine lv_aload_n C.1 C.2.1 dL_isDesk_75 rfl (lv_at hl 3 rfl) ?_
                  refine lv_iload C.1 C.2.1 dL_isDesk_76 (lv_at hl 0 rfl) ?_
                  refine hv_ki I (va_runV (As := [.int (nI i)]) (rest := []) C.fix (k_isValid l hlt G h _ (isD_le (cut_le aa h) hD) bn hi48  (v := bI (decide (t < fo i))) (by rw [hKi.1.2.2.2.1]; exact hf_N (by omega) (by omega))) (cwV 1 C.2.2.2.2.1 gL_isDesk_X4_isValid rfl rfl rfl (by decide +kernel) ⟨Nat.le_of_ble_eq_true rfl, Nat.le_of_ble_eq_true rfl⟩) (hv_preV C I (isD_0 (isD_le (cut_le aa h) hD)) (r := (RX4, TX4, 6)) rfl) rfl rfl hl.1 rfl (lv_room (Nat.le_of_ble_eq_true rfl)) dL_isDesk_78 ⟨by show _ ≤ 1600; omega, by show _ ≤ 9600; omega⟩) (fun ru_31 u_31 H locs pu_31 I => ?_)
                  obtain ⟨e1, e2⟩ := pu_31; have e1 := e1.symm; subst e1; have e2 := e2.symm; subst e2
                  refine lv_aload_n C.1 C.2.1 dL_isDesk_81 rfl (lv_at hl 4 rfl) ?_
                  refine lv_iload C.1 C.2.1 dL_isDesk_82 (lv_at hl 0 rfl) ?_
                  refine hv_laldN (i := i) C I fH (by omega) (by decide) dL_isDesk_84 ?_
                  refine lv_bipush (v := 25) C.1 C.2.1 dL_isDesk_85 (by decide) ?_
                  refine lv_bipush (v := 15) C.1 C.2.1 dL_isDesk_87 (by decide) ?_
                  refine hv_ki I (va_runS (As := [.long (hF i), .int 25, .int 15]) (rest := [.int (bI (decide (t < fo i)))]) C.fix (c_L_part l G h _ (hF i) 25 15 (v := nI (fo i)) hKi.2.1.2.2.2.1) (va_cwS 3 C.2.2.2.2.1 gL_isDesk_L_part rfl rfl rfl (by decide +kernel) ⟨Nat.le_of_ble_eq_true rfl, Nat.le_of_ble_eq_true rfl⟩) (hv_preS C I) rfl rfl hl.1 rfl (lv_room (Nat.le_of_ble_eq_true rfl)) dL_isDesk_89 ⟨by show _ ≤ 1600; omega, by show _ ≤ 9600; omega⟩) (fun ru_32 u_32 H locs pu_32 I => ?_)
                  obtain ⟨e1, e2⟩ := pu_32; have e1 := e1.symm; subst e1; have e2 := e2.symm; subst e2
                  refine lv_aload_n C.1 C.2.1 dL_isDesk_92 rfl (lv_at hl 6 rfl) ?_
                  refine lv_iconst (v := 0) C.1 C.2.1 dL_isDesk_93 (by decide) ?_
                  refine hv_ialdN (i := 0) C I fC (by decide) (by decide) dL_isDesk_94 ?_
                  refine lv_topi (fun z_33 ez_33 => ?_)
                  have ez_33 := ez_33.trans (show _ = nI t by exact ec0)
                  subst ez_33
                  refine lv_icmp_le (tgt := 102) C.1 C.2.1 dL_isDesk_95 (by decide) (fun c95 => ?_) (fun c95 => ?_)
                  · have c95 : fo i ≤ t := (nI_leI (a := fo i) (b := t) (by omega) (by omega)).mp c95
                    refine lv_topi (fun z_34 ez_34 => ?_)
                    have ez_34 := ez_34.trans (show _ = 0 by exact if_neg (fun z => by have := of_decide_eq_true z; omega))
                    subst ez_34
                    refine lv_iconst (v := 0) C.1 C.2.1 dL_isDesk_102 (by decide) ?_
                    refine lv_icmp_ne (tgt := 156) C.1 C.2.1 dL_isDesk_103 (by decide) (fun c103 => ?_) (fun c103 => ?_)
                    · exact absurd rfl c103
                    · refine lv_aload_n C.1 C.2.1 dL_isDesk_106 rfl (lv_at hl 3 rfl) ?_
                      refine lv_iload C.1 C.2.1 dL_isDesk_107 (lv_at hl 0 rfl) ?_
                      refine hv_ki I (va_runV (As := [.int (nI i)]) (rest := []) C.fix (k_isLarge l hlt G h _ (isD_le (cut_le aa h) hD) bn hi48  (v := bI (lgB (kd i) (sh i) (si i) t)) (by rw [hKi.1.1, hKi.1.2.2.1, hKi.1.2.2.2.2]; exact hlg_N (by omega) (by omega) (by omega) (by omega))) (cwV 1 C.2.2.2.2.1 gL_isDesk_X4_isLarge rfl rfl rfl (by decide +kernel) ⟨Nat.le_of_ble_eq_true rfl, Nat.le_of_ble_eq_true rfl⟩) (hv_preV C I (isD_0 (isD_le (cut_le aa h) hD)) (r := (RX4, TX4, 6)) rfl) rfl rfl hl.1 rfl (lv_room (Nat.le_of_ble_eq_true rfl)) dL_isDesk_109 ⟨by show _ ≤ 1600; omega, by show _ ≤ 9600; omega⟩) (fun ru_35 u_35 H locs pu_35 I => ?_)
                      obtain ⟨e1, e2⟩ := pu_35; have e1 := e1.symm; subst e1; have e2 := e2.symm; subst e2
                      refine lv_aload_n C.1 C.2.1 dL_isDesk_112 rfl (lv_at hl 4 rfl) ?_
                      refine lv_aload_n C.1 C.2.1 dL_isDesk_113 rfl (lv_at hl 6 rfl) ?_
                      refine lv_iload C.1 C.2.1 dL_isDesk_114 (lv_at hl 0 rfl) ?_
                      refine hv_ki I (va_runS (As := [.ref (aa 0), .ref (aa 3), .int (nI i)]) (rest := [.int (bI (lgB (kd i) (sh i) (si i) t))]) C.fix (c_L_isLarge l G h _ fH fC (by omega) hKi ec0 bt) (va_cwS 3 C.2.2.2.2.1 gL_isDesk_L_isLarge rfl rfl rfl (by decide +kernel) ⟨Nat.le_of_ble_eq_true rfl, Nat.le_of_ble_eq_true rfl⟩) (hv_preS C I) rfl rfl hl.1 rfl (lv_room (Nat.le_of_ble_eq_true rfl)) dL_isDesk_116 ⟨by show _ ≤ 1600; omega, by show _ ≤ 9600; omega⟩) (fun ru_36 u_36 H locs pu_36 I => ?_)
                      obtain ⟨e1, e2⟩ := pu_36; have e1 := e1.symm; subst e1; have e2 := e2.symm; subst e2
                      refine lv_icmp_ne (tgt := 156) C.1 C.2.1 dL_isDesk_119 (by decide) (fun c119 => ?_) (fun c119 => ?_)
                      · exact absurd rfl c119
                      · refine lv_aload_n C.1 C.2.1 dL_isDesk_122 rfl (lv_at hl 4 rfl) ?_
                        refine lv_iload C.1 C.2.1 dL_isDesk_123 (lv_at hl 0 rfl) ?_
                        refine hv_laldN (i := i) C I fH (by omega) (by decide) dL_isDesk_125 ?_
                        refine lv_iconst (v := 0) C.1 C.2.1 dL_isDesk_126 (by decide) ?_
                        refine lv_iconst (v := 2) C.1 C.2.1 dL_isDesk_127 (by decide) ?_
                        refine hv_ki I (va_runS (As := [.long (hF i), .int 0, .int 2]) (rest := []) C.fix (c_L_part l G h _ (hF i) 0 2 (v := nI (kd i)) hKi.2.1.1) (va_cwS 3 C.2.2.2.2.1 gL_isDesk_L_part rfl rfl rfl (by decide +kernel) ⟨Nat.le_of_ble_eq_true rfl, Nat.le_of_ble_eq_true rfl⟩) (hv_preS C I) rfl rfl hl.1 rfl (lv_room (Nat.le_of_ble_eq_true rfl)) dL_isDesk_128 ⟨by show _ ≤ 1600; omega, by show _ ≤ 9600; omega⟩) (fun ru_37 u_37 H locs pu_37 I => ?_)
                        obtain ⟨e1, e2⟩ := pu_37; have e1 := e1.symm; subst e1; have e2 := e2.symm; subst e2
                        refine lv_iconst (v := 2) C.1 C.2.1 dL_isDesk_131 (by decide) ?_
                        refine lv_icmp_eq (tgt := 152) C.1 C.2.1 dL_isDesk_132 (by decide) (fun c132 => ?_) (fun c132 => ?_)
                        · have c132 : kd i = 2 := (nI_eq (a := kd i) (b := 2) (by omega) (by omega)).mp c132
                          refine lv_iconst (v := 1) C.1 C.2.1 dL_isDesk_152 (by decide) ?_
                          refine lv_goto (tgt := 157) C.1 C.2.1 dL_isDesk_153 (by decide) ?_
                          refine lv_istore (lv' := [(6, .int 1), (9, .int (nI i)), (7, .long 0), (0, .ref (ad 0 0)), (1, .ref (aa 0)), (2, .ref (aa 1)), (3, .ref (aa 3)), (4, .long rf)]) C.1 C.2.1 dL_isDesk_157 hl (by decide) rfl (fun ls hl => ?_)
                          refine lv_iinc (v := nI (i + 1)) (lv' := [(9, .int (nI (i + 1))), (6, .int 1), (7, .long 0), (0, .ref (ad 0 0)), (1, .ref (aa 0)), (2, .ref (aa 1)), (3, .ref (aa 3)), (4, .long rf)]) C.1 C.2.1 dL_isDesk_159 hl (k := 1) rfl (nI_1 i) (by decide) rfl (fun ls hl => ?_)
                          refine lv_goto (tgt := 43) C.1 C.2.1 dL_isDesk_162 (by decide) ?_
                          refine W.widen (k := 0 + 8 * (i + 1)) (n := 0 + 48 * (i + 1)) (by omega) (by omega) ?_
                          exact loop_ih (i + 1) (by omega) (by omega) _ _ I ls (lv_sub hl [0, 2, 1, 3, 4, 5, 6, 7] rfl)
                        · have c132 : ¬ (kd i = 2) := fun z => c132 ((nI_eq (a := kd i) (b := 2) (by omega) (by omega)).mpr z)
                          refine lv_aload_n C.1 C.2.1 dL_isDesk_135 rfl (lv_at hl 3 rfl) ?_
                          refine lv_iload C.1 C.2.1 dL_isDesk_136 (lv_at hl 0 rfl) ?_
                          refine hv_ki I (va_runV (As := [.int (nI i)]) (rest := []) C.fix (k_treatyRate l hlt G h _ (isD_le (cut_le aa h) hD) bn hi48 (fun z => c132 ((nI_eq (a := kd i) (b := 2) (by omega) (by decide)).mp (hKi.1.1.symm.trans z))) (v := nI (rtN (lgB (kd i) (sh i) (si i) t) (g (ld i - 1)) (la (ld i - 1)))) (hKi.own hR bt (by omega))) (cwV 1 C.2.2.2.2.1 gL_isDesk_X4_treatyRate rfl rfl rfl (by decide +kernel) ⟨Nat.le_of_ble_eq_true rfl, Nat.le_of_ble_eq_true rfl⟩) (hv_preV C I (isD_0 (isD_le (cut_le aa h) hD)) (r := (RX4, TX4, 6)) rfl) rfl rfl hl.1 rfl (lv_room (Nat.le_of_ble_eq_true rfl)) dL_isDesk_138 ⟨by show _ ≤ 1600; omega, by show _ ≤ 9600; omega⟩) (fun ru_38 u_38 H locs pu_38 I => ?_)
                          obtain ⟨e1, e2⟩ := pu_38; have e1 := e1.symm; subst e1; have e2 := e2.symm; subst e2
                          refine lv_aload_n C.1 C.2.1 dL_isDesk_141 rfl (lv_at hl 4 rfl) ?_
                          refine lv_aload_n C.1 C.2.1 dL_isDesk_142 rfl (lv_at hl 5 rfl) ?_
                          refine lv_aload_n C.1 C.2.1 dL_isDesk_143 rfl (lv_at hl 6 rfl) ?_
                          refine lv_iload C.1 C.2.1 dL_isDesk_144 (lv_at hl 0 rfl) ?_
                          refine hv_ki I (va_runS (As := [.ref (aa 0), .ref (aa 1), .ref (aa 3), .int (nI i)]) (rest := [.int (nI (rtN (lgB (kd i) (sh i) (si i) t) (g (ld i - 1)) (la (ld i - 1))))]) C.fix (c_L_rate l G h _ fH fT fC (by omega) hKi ec0 bt hR (by omega)) (va_cwS 4 C.2.2.2.2.1 gL_isDesk_L_rate rfl rfl rfl (by decide +kernel) ⟨Nat.le_of_ble_eq_true rfl, Nat.le_of_ble_eq_true rfl⟩) (hv_preS C I) rfl rfl hl.1 rfl (lv_room (Nat.le_of_ble_eq_true rfl)) dL_isDesk_146 ⟨by show _ ≤ 1600; omega, by show _ ≤ 9600; omega⟩) (fun ru_39 u_39 H locs pu_39 I => ?_)
                          obtain ⟨e1, e2⟩ := pu_39; have e1 := e1.symm; subst e1; have e2 := e2.symm; subst e2
                          refine lv_icmp_ne (tgt := 156) C.1 C.2.1 dL_isDesk_149 (by decide) (fun c149 => ?_) (fun c149 => ?_)
                          · exact absurd rfl c149
                          · refine lv_iconst (v := 1) C.1 C.2.1 dL_isDesk_152 (by decide) ?_
                            refine lv_goto (tgt := 157) C.1 C.2.1 dL_isDesk_153 (by decide) ?_
                            refine lv_istore (lv' := [(6, .int 1), (9, .int (nI i)), (7, .long 0), (0, .ref (ad 0 0)), (1, .ref (aa 0)), (2, .ref (aa 1)), (3, .ref (aa 3)), (4, .long rf)]) C.1 C.2.1 dL_isDesk_157 hl (by decide) rfl (fun ls hl => ?_)
                            refine lv_iinc (v := nI (i + 1)) (lv' := [(9, .int (nI (i + 1))), (6, .int 1), (7, .long 0), (0, .ref (ad 0 0)), (1, .ref (aa 0)), (2, .ref (aa 1)), (3, .ref (aa 3)), (4, .long rf)]) C.1 C.2.1 dL_isDesk_159 hl (k := 1) rfl (nI_1 i) (by decide) rfl (fun ls hl => ?_)
                            refine lv_goto (tgt := 43) C.1 C.2.1 dL_isDesk_162 (by decide) ?_
                            refine W.widen (k := 0 + 8 * (i + 1)) (n := 0 + 48 * (i + 1)) (by omega) (by omega) ?_
                            exact loop_ih (i + 1) (by omega) (by omega) _ _ I ls (lv_sub hl [0, 2, 1, 3, 4, 5, 6, 7] rfl)
                  · have c95 : ¬ (fo i ≤ t) := fun z => c95 ((nI_leI (a := fo i) (b := t) (by omega) (by omega)).mpr z)
                    refine lv_topi (fun z_40 ez_40 => ?_)
                    have ez_40 := ez_40.trans (show _ = 1 by exact if_pos (decide_eq_true (by omega)))
                    subst ez_40
                    refine lv_iconst (v := 1) C.1 C.2.1 dL_isDesk_98 (by decide) ?_
                    refine lv_goto (tgt := 103) C.1 C.2.1 dL_isDesk_99 (by decide) ?_
                    refine lv_icmp_ne (tgt := 156) C.1 C.2.1 dL_isDesk_103 (by decide) (fun c103 => ?_) (fun c103 => ?_)
                    · exact absurd rfl c103
                    · refine lv_aload_n C.1 C.2.1 dL_isDesk_106 rfl (lv_at hl 3 rfl) ?_
                      refine lv_iload C.1 C.2.1 dL_isDesk_107 (lv_at hl 0 rfl) ?_
                      refine hv_ki I (va_runV (As := [.int (nI i)]) (rest := []) C.fix (k_isLarge l hlt G h _ (isD_le (cut_le aa h) hD) bn hi48  (v := bI (lgB (kd i) (sh i) (si i) t)) (by rw [hKi.1.1, hKi.1.2.2.1, hKi.1.2.2.2.2]; exact hlg_N (by omega) (by omega) (by omega) (by omega))) (cwV 1 C.2.2.2.2.1 gL_isDesk_X4_isLarge rfl rfl rfl (by decide +kernel) ⟨Nat.le_of_ble_eq_true rfl, Nat.le_of_ble_eq_true rfl⟩) (hv_preV C I (isD_0 (isD_le (cut_le aa h) hD)) (r := (RX4, TX4, 6)) rfl) rfl rfl hl.1 rfl (lv_room (Nat.le_of_ble_eq_true rfl)) dL_isDesk_109 ⟨by show _ ≤ 1600; omega, by show _ ≤ 9600; omega⟩) (fun ru_41 u_41 H locs pu_41 I => ?_)
                      obtain ⟨e1, e2⟩ := pu_41; have e1 := e1.symm; subst e1; have e2 := e2.symm; subst e2
                      refine lv_aload_n C.1 C.2.1 dL_isDesk_112 rfl (lv_at hl 4 rfl) ?_
                      refine lv_aload_n C.1 C.2.1 dL_isDesk_113 rfl (lv_at hl 6 rfl) ?_
                      refine lv_iload C.1 C.2.1 dL_isDesk_114 (lv_at hl 0 rfl) ?_
                      refine hv_ki I (va_runS (As := [.ref (aa 0), .ref (aa 3), .int (nI i)]) (rest := [.int (bI (lgB (kd i) (sh i) (si i) t))]) C.fix (c_L_isLarge l G h _ fH fC (by omega) hKi ec0 bt) (va_cwS 3 C.2.2.2.2.1 gL_isDesk_L_isLarge rfl rfl rfl (by decide +kernel) ⟨Nat.le_of_ble_eq_true rfl, Nat.le_of_ble_eq_true rfl⟩) (hv_preS C I) rfl rfl hl.1 rfl (lv_room (Nat.le_of_ble_eq_true rfl)) dL_isDesk_116 ⟨by show _ ≤ 1600; omega, by show _ ≤ 9600; omega⟩) (fun ru_42 u_42 H locs pu_42 I => ?_)
                      obtain ⟨e1, e2⟩ := pu_42; have e1 := e1.symm; subst e1; have e2 := e2.symm; subst e2
                      refine lv_icmp_ne (tgt := 156) C.1 C.2.1 dL_isDesk_119 (by decide) (fun c119 => ?_) (fun c119 => ?_)
                      · exact absurd rfl c119
                      · refine lv_aload_n C.1 C.2.1 dL_isDesk_122 rfl (lv_at hl 4 rfl) ?_
                        refine lv_iload C.1 C.2.1 dL_isDesk_123 (lv_at hl 0 rfl) ?_
                        refine hv_laldN (i := i) C I fH (by omega) (by decide) dL_isDesk_125 ?_
                        refine lv_iconst (v := 0) C.1 C.2.1 dL_isDesk_126 (by decide) ?_
                        refine lv_iconst (v := 2) C.1 C.2.1 dL_isDesk_127 (by decide) ?_
                        refine hv_ki I (va_runS (As := [.long (hF i), .int 0, .int 2]) (rest := []) C.fix (c_L_part l G h _ (hF i) 0 2 (v := nI (kd i)) hKi.2.1.1) (va_cwS 3 C.2.2.2.2.1 gL_isDesk_L_part rfl rfl rfl (by decide +kernel) ⟨Nat.le_of_ble_eq_true rfl, Nat.le_of_ble_eq_true rfl⟩) (hv_preS C I) rfl rfl hl.1 rfl (lv_room (Nat.le_of_ble_eq_true rfl)) dL_isDesk_128 ⟨by show _ ≤ 1600; omega, by show _ ≤ 9600; omega⟩) (fun ru_43 u_43 H locs pu_43 I => ?_)
                        obtain ⟨e1, e2⟩ := pu_43; have e1 := e1.symm; subst e1; have e2 := e2.symm; subst e2
                        refine lv_iconst (v := 2) C.1 C.2.1 dL_isDesk_131 (by decide) ?_
                        refine lv_icmp_eq (tgt := 152) C.1 C.2.1 dL_isDesk_132 (by decide) (fun c132 => ?_) (fun c132 => ?_)
                        · have c132 : kd i = 2 := (nI_eq (a := kd i) (b := 2) (by omega) (by omega)).mp c132
                          refine lv_iconst (v := 1) C.1 C.2.1 dL_isDesk_152 (by decide) ?_
                          refine lv_goto (tgt := 157) C.1 C.2.1 dL_isDesk_153 (by decide) ?_
                          refine lv_istore (lv' := [(6, .int 1), (9, .int (nI i)), (7, .long 0), (0, .ref (ad 0 0)), (1, .ref (aa 0)), (2, .ref (aa 1)), (3, .ref (aa 3)), (4, .long rf)]) C.1 C.2.1 dL_isDesk_157 hl (by decide) rfl (fun ls hl => ?_)
                          refine lv_iinc (v := nI (i + 1)) (lv' := [(9, .int (nI (i + 1))), (6, .int 1), (7, .long 0), (0, .ref (ad 0 0)), (1, .ref (aa 0)), (2, .ref (aa 1)), (3, .ref (aa 3)), (4, .long rf)]) C.1 C.2.1 dL_isDesk_159 hl (k := 1) rfl (nI_1 i) (by decide) rfl (fun ls hl => ?_)
                          refine lv_goto (tgt := 43) C.1 C.2.1 dL_isDesk_162 (by decide) ?_
                          refine W.widen (k := 0 + 8 * (i + 1)) (n := 0 + 48 * (i + 1)) (by omega) (by omega) ?_
                          exact loop_ih (i + 1) (by omega) (by omega) _ _ I ls (lv_sub hl [0, 2, 1, 3, 4, 5, 6, 7] rfl)
                        · have c132 : ¬ (kd i = 2) := fun z => c132 ((nI_eq (a := kd i) (b := 2) (by omega) (by omega)).mpr z)
                          refine lv_aload_n C.1 C.2.1 dL_isDesk_135 rfl (lv_at hl 3 rfl) ?_
                          refine lv_iload C.1 C.2.1 dL_isDesk_136 (lv_at hl 0 rfl) ?_
                          refine hv_ki I (va_runV (As := [.int (nI i)]) (rest := []) C.fix (k_treatyRate l hlt G h _ (isD_le (cut_le aa h) hD) bn hi48 (fun z => c132 ((nI_eq (a := kd i) (b := 2) (by omega) (by decide)).mp (hKi.1.1.symm.trans z))) (v := nI (rtN (lgB (kd i) (sh i) (si i) t) (g (ld i - 1)) (la (ld i - 1)))) (hKi.own hR bt (by omega))) (cwV 1 C.2.2.2.2.1 gL_isDesk_X4_treatyRate rfl rfl rfl (by decide +kernel) ⟨Nat.le_of_ble_eq_true rfl, Nat.le_of_ble_eq_true rfl⟩) (hv_preV C I (isD_0 (isD_le (cut_le aa h) hD)) (r := (RX4, TX4, 6)) rfl) rfl rfl hl.1 rfl (lv_room (Nat.le_of_ble_eq_true rfl)) dL_isDesk_138 ⟨by show _ ≤ 1600; omega, by show _ ≤ 9600; omega⟩) (fun ru_44 u_44 H locs pu_44 I => ?_)
                          obtain ⟨e1, e2⟩ := pu_44; have e1 := e1.symm; subst e1; have e2 := e2.symm; subst e2
                          refine lv_aload_n C.1 C.2.1 dL_isDesk_141 rfl (lv_at hl 4 rfl) ?_
                          refine lv_aload_n C.1 C.2.1 dL_isDesk_142 rfl (lv_at hl 5 rfl) ?_
                          refine lv_aload_n C.1 C.2.1 dL_isDesk_143 rfl (lv_at hl 6 rfl) ?_
                          refine lv_iload C.1 C.2.1 dL_isDesk_144 (lv_at hl 0 rfl) ?_
                          refine hv_ki I (va_runS (As := [.ref (aa 0), .ref (aa 1), .ref (aa 3), .int (nI i)]) (rest := [.int (nI (rtN (lgB (kd i) (sh i) (si i) t) (g (ld i - 1)) (la (ld i - 1))))]) C.fix (c_L_rate l G h _ fH fT fC (by omega) hKi ec0 bt hR (by omega)) (va_cwS 4 C.2.2.2.2.1 gL_isDesk_L_rate rfl rfl rfl (by decide +kernel) ⟨Nat.le_of_ble_eq_true rfl, Nat.le_of_ble_eq_true rfl⟩) (hv_preS C I) rfl rfl hl.1 rfl (lv_room (Nat.le_of_ble_eq_true rfl)) dL_isDesk_146 ⟨by show _ ≤ 1600; omega, by show _ ≤ 9600; omega⟩) (fun ru_45 u_45 H locs pu_45 I => ?_)
                          obtain ⟨e1, e2⟩ := pu_45; have e1 := e1.symm; subst e1; have e2 := e2.symm; subst e2
                          refine lv_icmp_ne (tgt := 156) C.1 C.2.1 dL_isDesk_149 (by decide) (fun c149 => ?_) (fun c149 => ?_)
                          · exact absurd rfl c149
                          · refine lv_iconst (v := 1) C.1 C.2.1 dL_isDesk_152 (by decide) ?_
                            refine lv_goto (tgt := 157) C.1 C.2.1 dL_isDesk_153 (by decide) ?_
                            refine lv_istore (lv' := [(6, .int 1), (9, .int (nI i)), (7, .long 0), (0, .ref (ad 0 0)), (1, .ref (aa 0)), (2, .ref (aa 1)), (3, .ref (aa 3)), (4, .long rf)]) C.1 C.2.1 dL_isDesk_157 hl (by decide) rfl (fun ls hl => ?_)
                            refine lv_iinc (v := nI (i + 1)) (lv' := [(9, .int (nI (i + 1))), (6, .int 1), (7, .long 0), (0, .ref (ad 0 0)), (1, .ref (aa 0)), (2, .ref (aa 1)), (3, .ref (aa 3)), (4, .long rf)]) C.1 C.2.1 dL_isDesk_159 hl (k := 1) rfl (nI_1 i) (by decide) rfl (fun ls hl => ?_)
                            refine lv_goto (tgt := 43) C.1 C.2.1 dL_isDesk_162 (by decide) ?_
                            refine W.widen (k := 0 + 8 * (i + 1)) (n := 0 + 48 * (i + 1)) (by omega) (by omega) ?_
                            exact loop_ih (i + 1) (by omega) (by omega) _ _ I ls (lv_sub hl [0, 2, 1, 3, 4, 5, 6, 7] rfl)
        refine W.widen (k := 0 + 8 * 0) (n := 0 + 48 * 0) (by omega) (by omega) ?_
        exact loop (n + 1) 0 (Nat.zero_le _) (by omega) _ _ I ls (lv_sub hl [0, 1, 2, 3, 4, 5, 6, 7] rfl)
