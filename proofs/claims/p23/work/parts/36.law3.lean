/-! ===== the law asks for refunds ===== -/
set_option maxHeartbeats 4000000 in
set_option maxRecDepth 100000 in
theorem c_L_refunds0 (l : Launch) (G : hv_G) (h : hv) (sz : Nat)  (hlt : l.stackTraces = false) {aa : Nat → Nat} {ad : Nat → Nat → Nat} {n d t : Nat} {rf : Int64} {ar : AR} {fm : Nat → Int32} {po : PO} {hF : Nat → Int64} {tF pF cF : Nat → Int32} {zF : Nat → Int64} {kd ld sh fo si g la : Nat → Nat} (hD : isD G (cut aa h) ad n d d (nI t) rf ar fm po) (hL : LV G aa h hF tF pF cF zF) (hN : Nm n d t ar po rf hF tF pF cF zF kd ld sh fo si g la) {D j : Nat} (hDd : D < d) (hj : j < n) : hv_Mi l yL_refunds wsL_refunds 14 500 60 400 G h sz [.ref (ad 0 0), .int 0, .int (nI D), .int (nI j), .ref (aa 0), .ref (aa 2), .ref (aa 3), .ref (aa 4)] (fun r u => r = 1 ∧ Inv G aa (ad 0 0) u) := by
  obtain ⟨fH, fT, fP, fC, fZ⟩ := id hL
  obtain ⟨⟨bn, bd, bt⟩, ⟨ec0, ec1, ec2, ez0⟩, hK, hS, hR, hZ, hQ, hP⟩ := id hN
  obtain ⟨q, hq, eq1, eq2⟩ := hP.2.2.1 D hDd
  have hKj := hK j hj
  obtain ⟨_, _, q1, q2, q3, q4⟩ := id hKj
  have qk : kd j ≤ 2 := by omega
  obtain ⟨HH, DD, AA, w1, w2, w3, w4, w5, w6⟩ := hN.at hDd hj
  refine hv_enter (y := yL_refunds) (avs := [.ref (ad 0 0), .int 0, .int (nI D), .int (nI j), .ref (aa 0), .ref (aa 2), .ref (aa 3), .ref (aa 4)]) (maxL := 15) (Qf := fun sz => va_Qi (fun r u => r = 1 ∧ Inv G aa (ad 0 0) u) (hv_Bq G h sz) (hv_A h sz)) (by decide) rfl rfl (Nat.le_of_ble_eq_true rfl) ?_
  intro p e s m below meth c hr hnm C I ls hl
  have hl : lv_has ls 15 [(0, .ref (ad 0 0)), (1, .int 0), (2, .int (nI D)), (3, .int (nI j)), (4, .ref (aa 0)), (5, .ref (aa 2)), (6, .ref (aa 3)), (7, .ref (aa 4))] := hl
  refine lv_aload_n C.1 C.2.1 dL_refunds_0 rfl (lv_at hl 0 rfl) ?_
  refine lv_iload_n C.1 C.2.1 dL_refunds_1 rfl (lv_at hl 2 rfl) ?_
  refine lv_iload_n C.1 C.2.1 dL_refunds_2 rfl (lv_at hl 3 rfl) ?_
  refine hv_ki I (va_runV (As := [.int (nI D), .int (nI j)]) (rest := []) C.fix (k_held l hlt G h _ (isD_le (cut_le aa h) hD) bn (Nat.le_refl _) (by omega) hP.2.1 hDd hj (v := nI HH) w1) (cwV 2 C.2.2.2.2.1 gL_refunds_X4_held rfl rfl rfl (by decide +kernel) ⟨Nat.le_of_ble_eq_true rfl, Nat.le_of_ble_eq_true rfl⟩) (hv_preV C I (isD_0 (isD_le (cut_le aa h) hD)) (r := (RX4, TX4, 6)) rfl) rfl rfl hl.1 rfl (lv_room (Nat.le_of_ble_eq_true rfl)) dL_refunds_3 ⟨Nat.le_of_ble_eq_true rfl, Nat.le_of_ble_eq_true rfl⟩) (fun ru_1 u_1 H locs pu_1 I => ?_)
  obtain ⟨e1, e2⟩ := pu_1; have e1 := e1.symm; subst e1; have e2 := e2.symm; subst e2
  refine lv_istore (lv' := [(8, .int (nI HH)), (0, .ref (ad 0 0)), (1, .int 0), (2, .int (nI D)), (3, .int (nI j)), (4, .ref (aa 0)), (5, .ref (aa 2)), (6, .ref (aa 3)), (7, .ref (aa 4))]) C.1 C.2.1 dL_refunds_6 hl (by decide) rfl (fun ls hl => ?_)
  refine lv_aload_n C.1 C.2.1 dL_refunds_8 rfl (lv_at hl 1 rfl) ?_
  refine lv_iload_n C.1 C.2.1 dL_refunds_9 rfl (lv_at hl 3 rfl) ?_
  refine lv_iload_n C.1 C.2.1 dL_refunds_10 rfl (lv_at hl 4 rfl) ?_
  refine hv_ki I (va_runV (As := [.int (nI D), .int (nI j)]) (rest := []) C.fix (k_due l hlt G h _ (isD_le (cut_le aa h) hD) bn (Nat.le_refl _) (by omega) hP.2.1 hDd hj (v := nI DD) w2) (cwV 2 C.2.2.2.2.1 gL_refunds_X4_due rfl rfl rfl (by decide +kernel) ⟨Nat.le_of_ble_eq_true rfl, Nat.le_of_ble_eq_true rfl⟩) (hv_preV C I (isD_0 (isD_le (cut_le aa h) hD)) (r := (RX4, TX4, 6)) rfl) rfl rfl hl.1 rfl (lv_room (Nat.le_of_ble_eq_true rfl)) dL_refunds_11 ⟨Nat.le_of_ble_eq_true rfl, Nat.le_of_ble_eq_true rfl⟩) (fun ru_2 u_2 H locs pu_2 I => ?_)
  obtain ⟨e1, e2⟩ := pu_2; have e1 := e1.symm; subst e1; have e2 := e2.symm; subst e2
  refine lv_istore (lv' := [(9, .int (nI DD)), (8, .int (nI HH)), (0, .ref (ad 0 0)), (1, .int 0), (2, .int (nI D)), (3, .int (nI j)), (4, .ref (aa 0)), (5, .ref (aa 2)), (6, .ref (aa 3)), (7, .ref (aa 4))]) C.1 C.2.1 dL_refunds_14 hl (by decide) rfl (fun ls hl => ?_)
  refine lv_aload C.1 C.2.1 dL_refunds_16 (lv_at hl 6 rfl) ?_
  refine lv_iload_n C.1 C.2.1 dL_refunds_18 rfl (lv_at hl 5 rfl) ?_
  refine hv_laldN (i := j) C I fH (by omega) (by decide) dL_refunds_19 ?_
  refine lv_bipush (v := 25) C.1 C.2.1 dL_refunds_20 (by decide) ?_
  refine lv_bipush (v := 15) C.1 C.2.1 dL_refunds_22 (by decide) ?_
  refine hv_ki I (va_runS (As := [.long (hF j), .int 25, .int 15]) (rest := []) C.fix (c_L_part l G h _ (hF j) 25 15 (v := nI (fo j)) hKj.2.1.2.2.2.1) (va_cwS 3 C.2.2.2.2.1 gL_refunds_L_part rfl rfl rfl (by decide +kernel) ⟨Nat.le_of_ble_eq_true rfl, Nat.le_of_ble_eq_true rfl⟩) (hv_preS C I) rfl rfl hl.1 rfl (lv_room (Nat.le_of_ble_eq_true rfl)) dL_refunds_24 ⟨Nat.le_of_ble_eq_true rfl, Nat.le_of_ble_eq_true rfl⟩) (fun ru_3 u_3 H locs pu_3 I => ?_)
  obtain ⟨e1, e2⟩ := pu_3; have e1 := e1.symm; subst e1; have e2 := e2.symm; subst e2
  refine lv_aload C.1 C.2.1 dL_refunds_27 (lv_at hl 8 rfl) ?_
  refine lv_iconst (v := 0) C.1 C.2.1 dL_refunds_29 (by decide) ?_
  refine hv_ialdN (i := 0) C I fC (by decide) (by decide) dL_refunds_30 ?_
  refine lv_topi (fun z_4 ez_4 => ?_)
  have ez_4 := ez_4.trans (show _ = nI t by exact ec0)
  subst ez_4
  refine lv_icmp_le (tgt := 38) C.1 C.2.1 dL_refunds_31 (by decide) (fun c31 => ?_) (fun c31 => ?_)
  · have c31 : fo j ≤ t := (nI_leI (a := fo j) (b := t) (by omega) (by omega)).mp c31
    refine lv_iconst (v := 0) C.1 C.2.1 dL_refunds_38 (by decide) ?_
    refine lv_istore (lv' := [(10, .int 0), (9, .int (nI DD)), (8, .int (nI HH)), (0, .ref (ad 0 0)), (1, .int 0), (2, .int (nI D)), (3, .int (nI j)), (4, .ref (aa 0)), (5, .ref (aa 2)), (6, .ref (aa 3)), (7, .ref (aa 4))]) C.1 C.2.1 dL_refunds_39 hl (by decide) rfl (fun ls hl => ?_)
    refine lv_aload_n C.1 C.2.1 dL_refunds_41 rfl (lv_at hl 3 rfl) ?_
    refine lv_iload_n C.1 C.2.1 dL_refunds_42 rfl (lv_at hl 5 rfl) ?_
    refine lv_iload_n C.1 C.2.1 dL_refunds_43 rfl (lv_at hl 6 rfl) ?_
    refine hv_ki I (va_runV (As := [.int (nI D), .int (nI j)]) (rest := []) C.fix (k_gross l hlt G h _ (isD_le (cut_le aa h) hD) bn (Nat.le_refl _) (by omega) hP.2.1 hDd hj (v := nI AA) w3) (cwV 2 C.2.2.2.2.1 gL_refunds_X4_gross rfl rfl rfl (by decide +kernel) ⟨Nat.le_of_ble_eq_true rfl, Nat.le_of_ble_eq_true rfl⟩) (hv_preV C I (isD_0 (isD_le (cut_le aa h) hD)) (r := (RX4, TX4, 6)) rfl) rfl rfl hl.1 rfl (lv_room (Nat.le_of_ble_eq_true rfl)) dL_refunds_44 ⟨Nat.le_of_ble_eq_true rfl, Nat.le_of_ble_eq_true rfl⟩) (fun ru_5 u_5 H locs pu_5 I => ?_)
    obtain ⟨e1, e2⟩ := pu_5; have e1 := e1.symm; subst e1; have e2 := e2.symm; subst e2
    refine lv_if_le (tgt := 87) C.1 C.2.1 dL_refunds_47 (by decide) (fun c47 => ?_) (fun c47 => ?_)
    · have c47 : AA ≤ 0 := (nI_leI (a := AA) (b := 0) (by omega) (by omega)).mp c47
      refine lv_iconst (v := 0) C.1 C.2.1 dL_refunds_87 (by decide) ?_
      refine lv_istore (lv' := [(11, .int 0), (10, .int 0), (9, .int (nI DD)), (8, .int (nI HH)), (0, .ref (ad 0 0)), (1, .int 0), (2, .int (nI D)), (3, .int (nI j)), (4, .ref (aa 0)), (5, .ref (aa 2)), (6, .ref (aa 3)), (7, .ref (aa 4))]) C.1 C.2.1 dL_refunds_88 hl (by decide) rfl (fun ls hl => ?_)
      refine lv_aload_n C.1 C.2.1 dL_refunds_90 rfl (lv_at hl 4 rfl) ?_
      refine lv_iload_n C.1 C.2.1 dL_refunds_91 rfl (lv_at hl 5 rfl) ?_
      refine lv_iload_n C.1 C.2.1 dL_refunds_92 rfl (lv_at hl 6 rfl) ?_
      refine lv_iload_n C.1 C.2.1 dL_refunds_93 rfl (lv_at hl 7 rfl) ?_
      have hA : lvA aa h := LV.A (G := G) ⟨fH, fT, fP, fC, fZ⟩
      refine hv_ki I (vx_runSW (As := [.ref (ad 0 0), .int 0, .int (nI D), .int (nI j)]) (rest := []) C.fix (a_refund l hlt G h _ hD hA hN hDd hj eq1 hq w1 w2 w3 w4 w5 w6) (vx_cwSW 4 C.2.2.2.2.1 gL_refunds_L_asks rfl rfl rfl (by decide +kernel) ⟨Nat.le_of_ble_eq_true rfl, Nat.le_of_ble_eq_true rfl⟩) (hv_preS C I) rfl rfl hl.1 rfl (lv_room (Nat.le_of_ble_eq_true rfl)) dL_refunds_94 ⟨Nat.le_of_ble_eq_true rfl, Nat.le_of_ble_eq_true rfl⟩) (fun ru_6 u_6 H locs pu_6 I => ?_)
      obtain ⟨hkp, hcase⟩ := pu_6
      have fH9 : u_6 (aa 0) = some (.inl (G.2.1 4, 20, .inr (.inl hF))) := (hkp _ (Or.inl rfl)).trans fH
      have fT9 : u_6 (aa 1) = some (.inl (G.2.1 0, 12, .inl tF)) := (hkp _ (Or.inr (Or.inl rfl))).trans fT
      have fP9 : u_6 (aa 2) = some (.inl (G.2.1 0, 13, .inl pF)) := (hkp _ (Or.inr (Or.inr (Or.inl rfl)))).trans fP
      have fC9 : u_6 (aa 3) = some (.inl (G.2.1 0, 3, .inl cF)) := (hkp _ (Or.inr (Or.inr (Or.inr (Or.inl rfl))))).trans fC
      have fZ9 : u_6 (aa 4) = some (.inl (G.2.1 4, 1, .inr (.inl zF))) := (hkp _ (Or.inr (Or.inr (Or.inr (Or.inr rfl))))).trans fZ
      have fH := fH9
      have fT := fT9
      have fP := fP9
      have fC := fC9
      have fZ := fZ9
      rcases hcase with ⟨s1, T, t1, t2, t3, t4, e2, hD⟩ | ⟨s1, e2, hD⟩
      · exfalso; omega
      · have e2 := e2.symm; subst e2
        refine lv_istore (lv' := [(12, .int (-8)), (11, .int 0), (10, .int 0), (9, .int (nI DD)), (8, .int (nI HH)), (0, .ref (ad 0 0)), (1, .int 0), (2, .int (nI D)), (3, .int (nI j)), (4, .ref (aa 0)), (5, .ref (aa 2)), (6, .ref (aa 3)), (7, .ref (aa 4))]) C.1 C.2.1 dL_refunds_97 hl (by decide) rfl (fun ls hl => ?_)
        refine lv_iload C.1 C.2.1 dL_refunds_99 (lv_at hl 1 rfl) ?_
        refine lv_if_ne (tgt := 128) C.1 C.2.1 dL_refunds_101 (by decide) (fun c101 => ?_) (fun c101 => ?_)
        · exact absurd rfl c101
        · refine lv_iload C.1 C.2.1 dL_refunds_104 (lv_at hl 0 rfl) ?_
          refine lv_bipush (v := (-8)) C.1 C.2.1 dL_refunds_106 (by decide) ?_
          refine lv_icmp_ne (tgt := 126) C.1 C.2.1 dL_refunds_108 (by decide) (fun c108 => ?_) (fun c108 => ?_)
          · exact absurd rfl c108
          · refine lv_aload_n C.1 C.2.1 dL_refunds_111 rfl (lv_at hl 5 rfl) ?_
            refine lv_iload_n C.1 C.2.1 dL_refunds_112 rfl (lv_at hl 7 rfl) ?_
            refine lv_iload_n C.1 C.2.1 dL_refunds_113 rfl (lv_at hl 8 rfl) ?_
            refine hv_ki I (va_runV (As := [.int (nI D), .int (nI j)]) (rest := []) C.fix (k_held l hlt G u_6 _ (isD_le (cut_le aa u_6) hD) bn (Nat.le_refl _) (by omega) hP.2.1 hDd hj (v := nI HH) w1) (cwV 2 C.2.2.2.2.1 gL_refunds_X4_held rfl rfl rfl (by decide +kernel) ⟨Nat.le_of_ble_eq_true rfl, Nat.le_of_ble_eq_true rfl⟩) (hv_preV C I (isD_0 (isD_le (cut_le aa u_6) hD)) (r := (RX4, TX4, 6)) rfl) rfl rfl hl.1 rfl (lv_room (Nat.le_of_ble_eq_true rfl)) dL_refunds_114 ⟨Nat.le_of_ble_eq_true rfl, Nat.le_of_ble_eq_true rfl⟩) (fun ru_7 u_7 H locs pu_7 I => ?_)
            obtain ⟨e1, e2⟩ := pu_7; have e1 := e1.symm; subst e1; have e2 := e2.symm; subst e2
            refine lv_iload C.1 C.2.1 dL_refunds_117 (lv_at hl 4 rfl) ?_
            refine lv_icmp_ne (tgt := 126) C.1 C.2.1 dL_refunds_119 (by decide) (fun c119 => ?_) (fun c119 => ?_)
            · exact absurd rfl c119
            · refine lv_iconst (v := 1) C.1 C.2.1 dL_refunds_122 (by decide) ?_
              refine lv_goto (tgt := 127) C.1 C.2.1 dL_refunds_123 (by decide) ?_
              exact hv_zret (v := 1) C hr I rfl (⟨rfl, inv_mk hD hN ⟨fH, fT, fP, fC, fZ⟩⟩) dL_refunds_127 (Nat.le_of_ble_eq_true rfl) (Nat.le_of_ble_eq_true rfl)
    · have c47 : ¬ (AA ≤ 0) := fun z => c47 ((nI_leI (a := AA) (b := 0) (by omega) (by omega)).mpr z)
      refine lv_aload C.1 C.2.1 dL_refunds_50 (lv_at hl 9 rfl) ?_
      refine lv_iconst (v := 0) C.1 C.2.1 dL_refunds_52 (by decide) ?_
      refine hv_ialdN (i := 0) C I fC (by decide) (by decide) dL_refunds_53 ?_
      refine lv_topi (fun z_8 ez_8 => ?_)
      have ez_8 := ez_8.trans (show _ = nI t by exact ec0)
      subst ez_8
      refine lv_aload C.1 C.2.1 dL_refunds_54 (lv_at hl 8 rfl) ?_
      refine lv_iload_n C.1 C.2.1 dL_refunds_56 rfl (lv_at hl 5 rfl) ?_
      refine hv_ialdN (i := D) C I fP (by omega) (by decide) dL_refunds_57 ?_
      refine lv_topi (fun z_9 ez_9 => ?_)
      have ez_9 := ez_9.trans (show _ = nI q by exact eq2)
      subst ez_9
      refine lv_isub C.1 C.2.1 dL_refunds_58 ?_
      refine lv_topi (fun z_10 ez_10 => ?_)
      have ez_10 := ez_10.trans (show _ = nI (t - q) by exact pk_sub (a := t) (b := q) (by omega))
      subst ez_10
      refine lv_iload_n C.1 C.2.1 dL_refunds_59 rfl (lv_at hl 4 rfl) ?_
      refine lv_if_ne (tgt := 68) C.1 C.2.1 dL_refunds_60 (by decide) (fun c60 => ?_) (fun c60 => ?_)
      · exact absurd rfl c60
      · refine lv_bipush (v := 60) C.1 C.2.1 dL_refunds_63 (by decide) ?_
        refine lv_goto (tgt := 71) C.1 C.2.1 dL_refunds_65 (by decide) ?_
        refine lv_icmp_gt (tgt := 87) C.1 C.2.1 dL_refunds_71 (by decide) (fun c71 => ?_) (fun c71 => ?_)
        · have c71 : 60 < t - q := (nI_ltI (a := 60) (b := t - q) (by omega) (by omega)).mp c71
          refine lv_iconst (v := 0) C.1 C.2.1 dL_refunds_87 (by decide) ?_
          refine lv_istore (lv' := [(11, .int 0), (10, .int 0), (9, .int (nI DD)), (8, .int (nI HH)), (0, .ref (ad 0 0)), (1, .int 0), (2, .int (nI D)), (3, .int (nI j)), (4, .ref (aa 0)), (5, .ref (aa 2)), (6, .ref (aa 3)), (7, .ref (aa 4))]) C.1 C.2.1 dL_refunds_88 hl (by decide) rfl (fun ls hl => ?_)
          refine lv_aload_n C.1 C.2.1 dL_refunds_90 rfl (lv_at hl 4 rfl) ?_
          refine lv_iload_n C.1 C.2.1 dL_refunds_91 rfl (lv_at hl 5 rfl) ?_
          refine lv_iload_n C.1 C.2.1 dL_refunds_92 rfl (lv_at hl 6 rfl) ?_
          refine lv_iload_n C.1 C.2.1 dL_refunds_93 rfl (lv_at hl 7 rfl) ?_
          have hA : lvA aa h := LV.A (G := G) ⟨fH, fT, fP, fC, fZ⟩
          refine hv_ki I (vx_runSW (As := [.ref (ad 0 0), .int 0, .int (nI D), .int (nI j)]) (rest := []) C.fix (a_refund l hlt G h _ hD hA hN hDd hj eq1 hq w1 w2 w3 w4 w5 w6) (vx_cwSW 4 C.2.2.2.2.1 gL_refunds_L_asks rfl rfl rfl (by decide +kernel) ⟨Nat.le_of_ble_eq_true rfl, Nat.le_of_ble_eq_true rfl⟩) (hv_preS C I) rfl rfl hl.1 rfl (lv_room (Nat.le_of_ble_eq_true rfl)) dL_refunds_94 ⟨Nat.le_of_ble_eq_true rfl, Nat.le_of_ble_eq_true rfl⟩) (fun ru_11 u_11 H locs pu_11 I => ?_)
          obtain ⟨hkp, hcase⟩ := pu_11
          have fH9 : u_11 (aa 0) = some (.inl (G.2.1 4, 20, .inr (.inl hF))) := (hkp _ (Or.inl rfl)).trans fH
          have fT9 : u_11 (aa 1) = some (.inl (G.2.1 0, 12, .inl tF)) := (hkp _ (Or.inr (Or.inl rfl))).trans fT
          have fP9 : u_11 (aa 2) = some (.inl (G.2.1 0, 13, .inl pF)) := (hkp _ (Or.inr (Or.inr (Or.inl rfl)))).trans fP
          have fC9 : u_11 (aa 3) = some (.inl (G.2.1 0, 3, .inl cF)) := (hkp _ (Or.inr (Or.inr (Or.inr (Or.inl rfl))))).trans fC
          have fZ9 : u_11 (aa 4) = some (.inl (G.2.1 4, 1, .inr (.inl zF))) := (hkp _ (Or.inr (Or.inr (Or.inr (Or.inr rfl))))).trans fZ
          have fH := fH9
          have fT := fT9
          have fP := fP9
          have fC := fC9
          have fZ := fZ9
          rcases hcase with ⟨s1, T, t1, t2, t3, t4, e2, hD⟩ | ⟨s1, e2, hD⟩
          · exfalso; omega
          · have e2 := e2.symm; subst e2
            refine lv_istore (lv' := [(12, .int (-8)), (11, .int 0), (10, .int 0), (9, .int (nI DD)), (8, .int (nI HH)), (0, .ref (ad 0 0)), (1, .int 0), (2, .int (nI D)), (3, .int (nI j)), (4, .ref (aa 0)), (5, .ref (aa 2)), (6, .ref (aa 3)), (7, .ref (aa 4))]) C.1 C.2.1 dL_refunds_97 hl (by decide) rfl (fun ls hl => ?_)
            refine lv_iload C.1 C.2.1 dL_refunds_99 (lv_at hl 1 rfl) ?_
            refine lv_if_ne (tgt := 128) C.1 C.2.1 dL_refunds_101 (by decide) (fun c101 => ?_) (fun c101 => ?_)
            · exact absurd rfl c101
            · refine lv_iload C.1 C.2.1 dL_refunds_104 (lv_at hl 0 rfl) ?_
              refine lv_bipush (v := (-8)) C.1 C.2.1 dL_refunds_106 (by decide) ?_
              refine lv_icmp_ne (tgt := 126) C.1 C.2.1 dL_refunds_108 (by decide) (fun c108 => ?_) (fun c108 => ?_)
              · exact absurd rfl c108
              · refine lv_aload_n C.1 C.2.1 dL_refunds_111 rfl (lv_at hl 5 rfl) ?_
                refine lv_iload_n C.1 C.2.1 dL_refunds_112 rfl (lv_at hl 7 rfl) ?_
                refine lv_iload_n C.1 C.2.1 dL_refunds_113 rfl (lv_at hl 8 rfl) ?_
                refine hv_ki I (va_runV (As := [.int (nI D), .int (nI j)]) (rest := []) C.fix (k_held l hlt G u_11 _ (isD_le (cut_le aa u_11) hD) bn (Nat.le_refl _) (by omega) hP.2.1 hDd hj (v := nI HH) w1) (cwV 2 C.2.2.2.2.1 gL_refunds_X4_held rfl rfl rfl (by decide +kernel) ⟨Nat.le_of_ble_eq_true rfl, Nat.le_of_ble_eq_true rfl⟩) (hv_preV C I (isD_0 (isD_le (cut_le aa u_11) hD)) (r := (RX4, TX4, 6)) rfl) rfl rfl hl.1 rfl (lv_room (Nat.le_of_ble_eq_true rfl)) dL_refunds_114 ⟨Nat.le_of_ble_eq_true rfl, Nat.le_of_ble_eq_true rfl⟩) (fun ru_12 u_12 H locs pu_12 I => ?_)
                obtain ⟨e1, e2⟩ := pu_12; have e1 := e1.symm; subst e1; have e2 := e2.symm; subst e2
                refine lv_iload C.1 C.2.1 dL_refunds_117 (lv_at hl 4 rfl) ?_
                refine lv_icmp_ne (tgt := 126) C.1 C.2.1 dL_refunds_119 (by decide) (fun c119 => ?_) (fun c119 => ?_)
                · exact absurd rfl c119
                · refine lv_iconst (v := 1) C.1 C.2.1 dL_refunds_122 (by decide) ?_
                  refine lv_goto (tgt := 127) C.1 C.2.1 dL_refunds_123 (by decide) ?_
                  exact hv_zret (v := 1) C hr I rfl (⟨rfl, inv_mk hD hN ⟨fH, fT, fP, fC, fZ⟩⟩) dL_refunds_127 (Nat.le_of_ble_eq_true rfl) (Nat.le_of_ble_eq_true rfl)
        · have c71 : ¬ (60 < t - q) := fun z => c71 ((nI_ltI (a := 60) (b := t - q) (by omega) (by omega)).mpr z)
          refine lv_iload_n C.1 C.2.1 dL_refunds_74 rfl (lv_at hl 4 rfl) ?_
          refine lv_if_eq (tgt := 83) C.1 C.2.1 dL_refunds_75 (by decide) (fun c75 => ?_) (fun c75 => ?_)
          · refine lv_iconst (v := 1) C.1 C.2.1 dL_refunds_83 (by decide) ?_
            refine lv_goto (tgt := 88) C.1 C.2.1 dL_refunds_84 (by decide) ?_
            refine lv_istore (lv' := [(11, .int 1), (10, .int 0), (9, .int (nI DD)), (8, .int (nI HH)), (0, .ref (ad 0 0)), (1, .int 0), (2, .int (nI D)), (3, .int (nI j)), (4, .ref (aa 0)), (5, .ref (aa 2)), (6, .ref (aa 3)), (7, .ref (aa 4))]) C.1 C.2.1 dL_refunds_88 hl (by decide) rfl (fun ls hl => ?_)
            refine lv_aload_n C.1 C.2.1 dL_refunds_90 rfl (lv_at hl 4 rfl) ?_
            refine lv_iload_n C.1 C.2.1 dL_refunds_91 rfl (lv_at hl 5 rfl) ?_
            refine lv_iload_n C.1 C.2.1 dL_refunds_92 rfl (lv_at hl 6 rfl) ?_
            refine lv_iload_n C.1 C.2.1 dL_refunds_93 rfl (lv_at hl 7 rfl) ?_
            have hA : lvA aa h := LV.A (G := G) ⟨fH, fT, fP, fC, fZ⟩
            refine hv_ki I (vx_runSW (As := [.ref (ad 0 0), .int 0, .int (nI D), .int (nI j)]) (rest := []) C.fix (a_refund l hlt G h _ hD hA hN hDd hj eq1 hq w1 w2 w3 w4 w5 w6) (vx_cwSW 4 C.2.2.2.2.1 gL_refunds_L_asks rfl rfl rfl (by decide +kernel) ⟨Nat.le_of_ble_eq_true rfl, Nat.le_of_ble_eq_true rfl⟩) (hv_preS C I) rfl rfl hl.1 rfl (lv_room (Nat.le_of_ble_eq_true rfl)) dL_refunds_94 ⟨Nat.le_of_ble_eq_true rfl, Nat.le_of_ble_eq_true rfl⟩) (fun ru_13 u_13 H locs pu_13 I => ?_)
            obtain ⟨hkp, hcase⟩ := pu_13
            have fH9 : u_13 (aa 0) = some (.inl (G.2.1 4, 20, .inr (.inl hF))) := (hkp _ (Or.inl rfl)).trans fH
            have fT9 : u_13 (aa 1) = some (.inl (G.2.1 0, 12, .inl tF)) := (hkp _ (Or.inr (Or.inl rfl))).trans fT
            have fP9 : u_13 (aa 2) = some (.inl (G.2.1 0, 13, .inl pF)) := (hkp _ (Or.inr (Or.inr (Or.inl rfl)))).trans fP
            have fC9 : u_13 (aa 3) = some (.inl (G.2.1 0, 3, .inl cF)) := (hkp _ (Or.inr (Or.inr (Or.inr (Or.inl rfl))))).trans fC
            have fZ9 : u_13 (aa 4) = some (.inl (G.2.1 4, 1, .inr (.inl zF))) := (hkp _ (Or.inr (Or.inr (Or.inr (Or.inr rfl))))).trans fZ
            have fH := fH9
            have fT := fT9
            have fP := fP9
            have fC := fC9
            have fZ := fZ9
            rcases hcase with ⟨s1, T, t1, t2, t3, t4, e2, hD⟩ | ⟨s1, e2, hD⟩
            · have e2 := e2.symm; subst e2
              have hg : ¬ ar 12 (20 * D + j) = 0 := fun z => by
                rw [w3] at z
                have := (nI_eq (a := AA) (b := 0) (by omega) (by decide)).mp z
                omega
              have w2x : tall (po (20 * D + j)) (-1) = nI DD := by
                rw [if_neg hg] at w2
                exact w2
              obtain ⟨ar1, har1⟩ : ∃ z, z = va_up ar 13 (upd (ar 13) (20 * D + j) (nI (HH - (HH - T)))) := ⟨_, rfl⟩
              rw [← har1] at hD
              have hN1 : Nm n d t ar1 po (rf + (nI (HH - T)).toInt64) hF tF pF cF (vp_updL zF 0 (rf + (nI (HH - T)).toInt64)) kd ld sh fo si g la := by rw [har1]; exact hN.held hDd (by omega) hg w3 w4 w2x (by omega) (by omega) (by omega) updL_eq rfl
              have w1b : (if ar1 12 (20 * D + j) = 0 then 0 else ar1 13 (20 * D + j)) = nI (HH - (HH - T)) := by rw [har1]; exact (if_neg hg).trans upd_eq
              have w2b : (if ar1 12 (20 * D + j) = 0 then 0 else tall (po (20 * D + j)) (-1)) = nI DD := by rw [har1]; exact w2
              have w3b : ar1 12 (20 * D + j) = nI AA := by rw [har1]; exact w3
              have eq1b : ar1 11 D = nI q := by rw [har1]; exact eq1
              have hgb : ¬ ar1 12 (20 * D + j) = 0 := by rw [har1]; exact hg
              refine lv_istore (lv' := [(12, .int (nI (HH - T))), (11, .int 1), (10, .int 0), (9, .int (nI DD)), (8, .int (nI HH)), (0, .ref (ad 0 0)), (1, .int 0), (2, .int (nI D)), (3, .int (nI j)), (4, .ref (aa 0)), (5, .ref (aa 2)), (6, .ref (aa 3)), (7, .ref (aa 4))]) C.1 C.2.1 dL_refunds_97 hl (by decide) rfl (fun ls hl => ?_)
              refine lv_iload C.1 C.2.1 dL_refunds_99 (lv_at hl 1 rfl) ?_
              refine lv_if_ne (tgt := 128) C.1 C.2.1 dL_refunds_101 (by decide) (fun c101 => ?_) (fun c101 => ?_)
              · refine lv_aload C.1 C.2.1 dL_refunds_128 (lv_at hl 12 rfl) ?_
                refine lv_iconst (v := 0) C.1 C.2.1 dL_refunds_130 (by decide) ?_
                refine lv_dup2_11 C.1 C.2.1 dL_refunds_131 rfl rfl ?_
                refine hv_laldN (i := 0) C I fZ (by decide) (by decide) dL_refunds_132 ?_
                refine lv_topl (fun z_14 ez_14 => ?_)
                have ez_14 := ez_14.trans (show _ = rf by exact ez0)
                have ez_14 := ez_14.symm
                subst ez_14
                refine lv_iload C.1 C.2.1 dL_refunds_133 (lv_at hl 0 rfl) ?_
                refine lv_i2l C.1 C.2.1 dL_refunds_135 rfl ?_
                refine lv_ladd C.1 C.2.1 dL_refunds_136 ?_
                refine hv_lastN (i := 0) C I fZ (by decide) (by decide) dL_refunds_137 (fun H locs I => ?_)
                obtain ⟨h_15, eh_15⟩ : ∃ z, z = hv_up u_13 (aa 4) (.inl (G.2.1 4, 1, .inr (.inl (vp_updL zF 0 (rf + ((nI (HH - T)).toInt64)))))) := ⟨_, rfl⟩
                have I : hv_I G h s h_15 H locs := by rw [eh_15]; exact I
                have hD : isD G (cut aa h_15) ad n d d (nI t) (rf + (nI (HH - T)).toInt64) ar1 fm po := by rw [eh_15, cut_up (Or.inr (Or.inr (Or.inr (Or.inr rfl))))]; exact hD
                have fH9 : h_15 (aa 0) = some (.inl (G.2.1 4, 20, .inr (.inl hF))) := by rw [eh_15, hv_up_ne (hv_neLen fH fZ (by decide))]; exact fH
                have fT9 : h_15 (aa 1) = some (.inl (G.2.1 0, 12, .inl tF)) := by rw [eh_15, hv_up_ne (hv_neLen fT fZ (by decide))]; exact fT
                have fP9 : h_15 (aa 2) = some (.inl (G.2.1 0, 13, .inl pF)) := by rw [eh_15, hv_up_ne (hv_neLen fP fZ (by decide))]; exact fP
                have fC9 : h_15 (aa 3) = some (.inl (G.2.1 0, 3, .inl cF)) := by rw [eh_15, hv_up_ne (hv_neLen fC fZ (by decide))]; exact fC
                have fZ9 : h_15 (aa 4) = some (.inl (G.2.1 4, 1, .inr (.inl (vp_updL zF 0 (rf + ((nI (HH - T)).toInt64)))))) := by rw [eh_15]; exact hv_up_eq
                have fH := fH9
                have fT := fT9
                have fP := fP9
                have fC := fC9
                have fZ := fZ9
                refine lv_iload C.1 C.2.1 dL_refunds_138 (lv_at hl 0 rfl) ?_
                refine lv_if_lt (tgt := 186) C.1 C.2.1 dL_refunds_140 (by decide) (fun c140 => ?_) (fun c140 => ?_)
                · have c140 : HH - T < 0 := (nI_ltI (a := HH - T) (b := 0) (by omega) (by omega)).mp c140
                  exfalso
                  omega
                · have c140 : ¬ (HH - T < 0) := fun z => c140 ((nI_ltI (a := HH - T) (b := 0) (by omega) (by omega)).mpr z)
                  refine lv_aload_n C.1 C.2.1 dL_refunds_143 rfl (lv_at hl 5 rfl) ?_
                  refine lv_iload_n C.1 C.2.1 dL_refunds_144 rfl (lv_at hl 7 rfl) ?_
                  refine lv_iload_n C.1 C.2.1 dL_refunds_145 rfl (lv_at hl 8 rfl) ?_
                  refine hv_ki I (va_runV (As := [.int (nI D), .int (nI j)]) (rest := []) C.fix (k_held l hlt G h_15 _ (isD_le (cut_le aa h_15) hD) bn (Nat.le_refl _) (by omega) hP.2.1 hDd hj (v := nI (HH - (HH - T))) w1b) (cwV 2 C.2.2.2.2.1 gL_refunds_X4_held rfl rfl rfl (by decide +kernel) ⟨Nat.le_of_ble_eq_true rfl, Nat.le_of_ble_eq_true rfl⟩) (hv_preV C I (isD_0 (isD_le (cut_le aa h_15) hD)) (r := (RX4, TX4, 6)) rfl) rfl rfl hl.1 rfl (lv_room (Nat.le_of_ble_eq_true rfl)) dL_refunds_146 ⟨Nat.le_of_ble_eq_true rfl, Nat.le_of_ble_eq_true rfl⟩) (fun ru_16 u_16 H locs pu_16 I => ?_)
                  obtain ⟨e1, e2⟩ := pu_16; have e1 := e1.symm; subst e1; have e2 := e2.symm; subst e2
                  refine lv_iload C.1 C.2.1 dL_refunds_149 (lv_at hl 4 rfl) ?_
                  refine lv_iload C.1 C.2.1 dL_refunds_151 (lv_at hl 0 rfl) ?_
                  refine lv_isub C.1 C.2.1 dL_refunds_153 ?_
                  refine lv_topi (fun z_17 ez_17 => ?_)
                  have ez_17 := ez_17.trans (show _ = nI (HH - (HH - T)) by exact pk_sub (a := HH) (b := (HH - T)) (by omega))
                  subst ez_17
                  refine lv_icmp_ne (tgt := 186) C.1 C.2.1 dL_refunds_154 (by decide) (fun c154 => ?_) (fun c154 => ?_)
                  · have c154 : ¬ (HH - (HH - T) = HH - (HH - T)) := fun z => c154 ((nI_eq (a := HH - (HH - T)) (b := HH - (HH - T)) (by omega) (by omega)).mpr z)
                    exfalso
                    omega
                  · have c154 : HH - (HH - T) = HH - (HH - T) := (nI_eq (a := HH - (HH - T)) (b := HH - (HH - T)) (by omega) (by omega)).mp c154
                    refine lv_aload_n C.1 C.2.1 dL_refunds_157 rfl (lv_at hl 5 rfl) ?_
                    refine lv_iload_n C.1 C.2.1 dL_refunds_158 rfl (lv_at hl 7 rfl) ?_
                    refine lv_iload_n C.1 C.2.1 dL_refunds_159 rfl (lv_at hl 8 rfl) ?_
                    refine hv_ki I (va_runV (As := [.int (nI D), .int (nI j)]) (rest := []) C.fix (k_held l hlt G h_15 _ (isD_le (cut_le aa h_15) hD) bn (Nat.le_refl _) (by omega) hP.2.1 hDd hj (v := nI (HH - (HH - T))) w1b) (cwV 2 C.2.2.2.2.1 gL_refunds_X4_held rfl rfl rfl (by decide +kernel) ⟨Nat.le_of_ble_eq_true rfl, Nat.le_of_ble_eq_true rfl⟩) (hv_preV C I (isD_0 (isD_le (cut_le aa h_15) hD)) (r := (RX4, TX4, 6)) rfl) rfl rfl hl.1 rfl (lv_room (Nat.le_of_ble_eq_true rfl)) dL_refunds_160 ⟨Nat.le_of_ble_eq_true rfl, Nat.le_of_ble_eq_true rfl⟩) (fun ru_18 u_18 H locs pu_18 I => ?_)
                    obtain ⟨e1, e2⟩ := pu_18; have e1 := e1.symm; subst e1; have e2 := e2.symm; subst e2
                    refine lv_iload C.1 C.2.1 dL_refunds_163 (lv_at hl 3 rfl) ?_
                    refine lv_icmp_lt (tgt := 186) C.1 C.2.1 dL_refunds_165 (by decide) (fun c165 => ?_) (fun c165 => ?_)
                    · have c165 : HH - (HH - T) < DD := (nI_ltI (a := HH - (HH - T)) (b := DD) (by omega) (by omega)).mp c165
                      exfalso
                      omega
                    · have c165 : ¬ (HH - (HH - T) < DD) := fun z => c165 ((nI_ltI (a := HH - (HH - T)) (b := DD) (by omega) (by omega)).mpr z)
                      refine lv_iload_n C.1 C.2.1 dL_refunds_168 rfl (lv_at hl 6 rfl) ?_
                      refine lv_if_eq (tgt := 182) C.1 C.2.1 dL_refunds_169 (by decide) (fun c169 => ?_) (fun c169 => ?_)
                      · refine lv_iconst (v := 1) C.1 C.2.1 dL_refunds_182 (by decide) ?_
                        refine lv_goto (tgt := 187) C.1 C.2.1 dL_refunds_183 (by decide) ?_
                        refine lv_istore (lv' := [(13, .int 1), (12, .int (nI (HH - T))), (11, .int 1), (10, .int 0), (9, .int (nI DD)), (8, .int (nI HH)), (0, .ref (ad 0 0)), (1, .int 0), (2, .int (nI D)), (3, .int (nI j)), (4, .ref (aa 0)), (5, .ref (aa 2)), (6, .ref (aa 3)), (7, .ref (aa 4))]) C.1 C.2.1 dL_refunds_187 hl (by decide) rfl (fun ls hl => ?_)
                        refine lv_iload_n C.1 C.2.1 dL_refunds_189 rfl (lv_at hl 7 rfl) ?_
                        refine lv_if_ne (tgt := 215) C.1 C.2.1 dL_refunds_190 (by decide) (fun c190 => ?_) (fun c190 => ?_)
                        · exact absurd rfl c190
                        · refine lv_iload C.1 C.2.1 dL_refunds_193 (lv_at hl 3 rfl) ?_
                          refine lv_if_eq (tgt := 215) C.1 C.2.1 dL_refunds_195 (by decide) (fun c195 => ?_) (fun c195 => ?_)
                          · refine lv_iconst (v := 0) C.1 C.2.1 dL_refunds_215 (by decide) ?_
                            refine lv_istore (lv' := [(14, .int 0), (13, .int 1), (12, .int (nI (HH - T))), (11, .int 1), (10, .int 0), (9, .int (nI DD)), (8, .int (nI HH)), (0, .ref (ad 0 0)), (1, .int 0), (2, .int (nI D)), (3, .int (nI j)), (4, .ref (aa 0)), (5, .ref (aa 2)), (6, .ref (aa 3)), (7, .ref (aa 4))]) C.1 C.2.1 dL_refunds_216 hl (by decide) rfl (fun ls hl => ?_)
                            refine lv_iload C.1 C.2.1 dL_refunds_218 (lv_at hl 1 rfl) ?_
                            refine lv_if_eq (tgt := 252) C.1 C.2.1 dL_refunds_220 (by decide) (fun c220 => ?_) (fun c220 => ?_)
                            · exact absurd c220 (by decide)
                            · refine lv_iload C.1 C.2.1 dL_refunds_223 (lv_at hl 0 rfl) ?_
                              refine lv_if_eq (tgt := 238) C.1 C.2.1 dL_refunds_225 (by decide) (fun c225 => ?_) (fun c225 => ?_)
                              · refine lv_aload_n C.1 C.2.1 dL_refunds_238 rfl (lv_at hl 7 rfl) ?_
                                refine lv_iload_n C.1 C.2.1 dL_refunds_239 rfl (lv_at hl 8 rfl) ?_
                                refine lv_iload_n C.1 C.2.1 dL_refunds_240 rfl (lv_at hl 9 rfl) ?_
                                refine lv_iload_n C.1 C.2.1 dL_refunds_241 rfl (lv_at hl 10 rfl) ?_
                                have hA : lvA aa h_15 := LV.A (G := G) ⟨fH, fT, fP, fC, fZ⟩
                                refine hv_ki I (vx_runSW (As := [.ref (ad 0 0), .int 0, .int (nI D), .int (nI j)]) (rest := []) C.fix (a_refund l hlt G h_15 _ hD hA hN1 hDd hj eq1b hq w1b w2b w3b w4 (by omega) (by omega)) (vx_cwSW 4 C.2.2.2.2.1 gL_refunds_L_asks rfl rfl rfl (by decide +kernel) ⟨Nat.le_of_ble_eq_true rfl, Nat.le_of_ble_eq_true rfl⟩) (hv_preS C I) rfl rfl hl.1 rfl (lv_room (Nat.le_of_ble_eq_true rfl)) dL_refunds_242 ⟨Nat.le_of_ble_eq_true rfl, Nat.le_of_ble_eq_true rfl⟩) (fun ru_19 u_19 H locs pu_19 I => ?_)
                                obtain ⟨hkp, hcase⟩ := pu_19
                                have fH9 : u_19 (aa 0) = some (.inl (G.2.1 4, 20, .inr (.inl hF))) := (hkp _ (Or.inl rfl)).trans fH
                                have fT9 : u_19 (aa 1) = some (.inl (G.2.1 0, 12, .inl tF)) := (hkp _ (Or.inr (Or.inl rfl))).trans fT
                                have fP9 : u_19 (aa 2) = some (.inl (G.2.1 0, 13, .inl pF)) := (hkp _ (Or.inr (Or.inr (Or.inl rfl)))).trans fP
                                have fC9 : u_19 (aa 3) = some (.inl (G.2.1 0, 3, .inl cF)) := (hkp _ (Or.inr (Or.inr (Or.inr (Or.inl rfl))))).trans fC
                                have fZ9 : u_19 (aa 4) = some (.inl (G.2.1 4, 1, .inr (.inl (vp_updL zF 0 (rf + ((nI (HH - T)).toInt64)))))) := (hkp _ (Or.inr (Or.inr (Or.inr (Or.inr rfl))))).trans fZ
                                have fH := fH9
                                have fT := fT9
                                have fP := fP9
                                have fC := fC9
                                have fZ := fZ9
                                rcases hcase with ⟨s2, T2, u1, u2, u3, u4, e2, hD⟩ | ⟨s2, e2, hD⟩
                                · have e2 := e2.symm; subst e2
                                  have eT : T2 = T := (nI_eq (by omega) (by omega)).mp (u4.symm.trans (show tall (po (20 * D + j)) (fm D ||| vfm (nI t) (ar1 7) n) = nI T by rw [har1]; exact t4))
                                  have hN2 := hN1.held hDd (by omega) hgb w3b w4 w2x (by omega) (show DD ≤ (HH - (HH - T)) - ((HH - (HH - T)) - T2) by omega) (by omega) (zF2 := vp_updL zF 0 (rf + (nI (HH - T)).toInt64)) (rf2 := (rf + (nI (HH - T)).toInt64) + (nI ((HH - (HH - T)) - T2)).toInt64) (by rw [updL_eq, show (HH - (HH - T)) - T2 = 0 by omega]; exact (add_l0 _).symm) rfl
                                  refine lv_if_ne (tgt := 252) C.1 C.2.1 dL_refunds_245 (by decide) (fun c245 => ?_) (fun c245 => ?_)
                                  · have c245 : ¬ ((HH - (HH - T)) - T2 = 0) := fun z => c245 ((nI_eq (a := (HH - (HH - T)) - T2) (b := 0) (by omega) (by omega)).mpr z)
                                    exfalso
                                    omega
                                  · have c245 : (HH - (HH - T)) - T2 = 0 := (nI_eq (a := (HH - (HH - T)) - T2) (b := 0) (by omega) (by omega)).mp c245
                                    refine lv_iconst (v := 1) C.1 C.2.1 dL_refunds_248 (by decide) ?_
                                    refine lv_goto (tgt := 253) C.1 C.2.1 dL_refunds_249 (by decide) ?_
                                    exact hv_zret (v := 1) C hr I rfl (⟨rfl, inv_mk hD hN2 ⟨fH, fT, fP, fC, fZ⟩⟩) dL_refunds_253 (Nat.le_of_ble_eq_true rfl) (Nat.le_of_ble_eq_true rfl)
                                · exfalso; omega
                              · exact absurd rfl c225
                          · exact absurd rfl c195
                      · exact absurd rfl c169
              · exact absurd c101 (by decide)
            · exfalso; omega
          · exact absurd rfl c75
  · have c31 : ¬ (fo j ≤ t) := fun z => c31 ((nI_leI (a := fo j) (b := t) (by omega) (by omega)).mpr z)
    refine lv_iconst (v := 1) C.1 C.2.1 dL_refunds_34 (by decide) ?_
    refine lv_goto (tgt := 39) C.1 C.2.1 dL_refunds_35 (by decide) ?_
    refine lv_istore (lv' := [(10, .int 1), (9, .int (nI DD)), (8, .int (nI HH)), (0, .ref (ad 0 0)), (1, .int 0), (2, .int (nI D)), (3, .int (nI j)), (4, .ref (aa 0)), (5, .ref (aa 2)), (6, .ref (aa 3)), (7, .ref (aa 4))]) C.1 C.2.1 dL_refunds_39 hl (by decide) rfl (fun ls hl => ?_)
    refine lv_aload_n C.1 C.2.1 dL_refunds_41 rfl (lv_at hl 3 rfl) ?_
    refine lv_iload_n C.1 C.2.1 dL_refunds_42 rfl (lv_at hl 5 rfl) ?_
    refine lv_iload_n C.1 C.2.1 dL_refunds_43 rfl (lv_at hl 6 rfl) ?_
    refine hv_ki I (va_runV (As := [.int (nI D), .int (nI j)]) (rest := []) C.fix (k_gross l hlt G h _ (isD_le (cut_le aa h) hD) bn (Nat.le_refl _) (by omega) hP.2.1 hDd hj (v := nI AA) w3) (cwV 2 C.2.2.2.2.1 gL_refunds_X4_gross rfl rfl rfl (by decide +kernel) ⟨Nat.le_of_ble_eq_true rfl, Nat.le_of_ble_eq_true rfl⟩) (hv_preV C I (isD_0 (isD_le (cut_le aa h) hD)) (r := (RX4, TX4, 6)) rfl) rfl rfl hl.1 rfl (lv_room (Nat.le_of_ble_eq_true rfl)) dL_refunds_44 ⟨Nat.le_of_ble_eq_true rfl, Nat.le_of_ble_eq_true rfl⟩) (fun ru_20 u_20 H locs pu_20 I => ?_)
    obtain ⟨e1, e2⟩ := pu_20; have e1 := e1.symm; subst e1; have e2 := e2.symm; subst e2
    refine lv_if_le (tgt := 87) C.1 C.2.1 dL_refunds_47 (by decide) (fun c47 => ?_) (fun c47 => ?_)
    · have c47 : AA ≤ 0 := (nI_leI (a := AA) (b := 0) (by omega) (by omega)).mp c47
      refine lv_iconst (v := 0) C.1 C.2.1 dL_refunds_87 (by decide) ?_
      refine lv_istore (lv' := [(11, .int 0), (10, .int 1), (9, .int (nI DD)), (8, .int (nI HH)), (0, .ref (ad 0 0)), (1, .int 0), (2, .int (nI D)), (3, .int (nI j)), (4, .ref (aa 0)), (5, .ref (aa 2)), (6, .ref (aa 3)), (7, .ref (aa 4))]) C.1 C.2.1 dL_refunds_88 hl (by decide) rfl (fun ls hl => ?_)
      refine lv_aload_n C.1 C.2.1 dL_refunds_90 rfl (lv_at hl 4 rfl) ?_
      refine lv_iload_n C.1 C.2.1 dL_refunds_91 rfl (lv_at hl 5 rfl) ?_
      refine lv_iload_n C.1 C.2.1 dL_refunds_92 rfl (lv_at hl 6 rfl) ?_
      refine lv_iload_n C.1 C.2.1 dL_refunds_93 rfl (lv_at hl 7 rfl) ?_
      have hA : lvA aa h := LV.A (G := G) ⟨fH, fT, fP, fC, fZ⟩
      refine hv_ki I (vx_runSW (As := [.ref (ad 0 0), .int 0, .int (nI D), .int (nI j)]) (rest := []) C.fix (a_refund l hlt G h _ hD hA hN hDd hj eq1 hq w1 w2 w3 w4 w5 w6) (vx_cwSW 4 C.2.2.2.2.1 gL_refunds_L_asks rfl rfl rfl (by decide +kernel) ⟨Nat.le_of_ble_eq_true rfl, Nat.le_of_ble_eq_true rfl⟩) (hv_preS C I) rfl rfl hl.1 rfl (lv_room (Nat.le_of_ble_eq_true rfl)) dL_refunds_94 ⟨Nat.le_of_ble_eq_true rfl, Nat.le_of_ble_eq_true rfl⟩) (fun ru_21 u_21 H locs pu_21 I => ?_)
      obtain ⟨hkp, hcase⟩ := pu_21
      have fH9 : u_21 (aa 0) = some (.inl (G.2.1 4, 20, .inr (.inl hF))) := (hkp _ (Or.inl rfl)).trans fH
      have fT9 : u_21 (aa 1) = some (.inl (G.2.1 0, 12, .inl tF)) := (hkp _ (Or.inr (Or.inl rfl))).trans fT
      have fP9 : u_21 (aa 2) = some (.inl (G.2.1 0, 13, .inl pF)) := (hkp _ (Or.inr (Or.inr (Or.inl rfl)))).trans fP
      have fC9 : u_21 (aa 3) = some (.inl (G.2.1 0, 3, .inl cF)) := (hkp _ (Or.inr (Or.inr (Or.inr (Or.inl rfl))))).trans fC
      have fZ9 : u_21 (aa 4) = some (.inl (G.2.1 4, 1, .inr (.inl zF))) := (hkp _ (Or.inr (Or.inr (Or.inr (Or.inr rfl))))).trans fZ
      have fH := fH9
      have fT := fT9
      have fP := fP9
      have fC := fC9
      have fZ := fZ9
      rcases hcase with ⟨s1, T, t1, t2, t3, t4, e2, hD⟩ | ⟨s1, e2, hD⟩
      · exfalso; omega
      · have e2 := e2.symm; subst e2
        refine lv_istore (lv' := [(12, .int (-8)), (11, .int 0), (10, .int 1), (9, .int (nI DD)), (8, .int (nI HH)), (0, .ref (ad 0 0)), (1, .int 0), (2, .int (nI D)), (3, .int (nI j)), (4, .ref (aa 0)), (5, .ref (aa 2)), (6, .ref (aa 3)), (7, .ref (aa 4))]) C.1 C.2.1 dL_refunds_97 hl (by decide) rfl (fun ls hl => ?_)
        refine lv_iload C.1 C.2.1 dL_refunds_99 (lv_at hl 1 rfl) ?_
        refine lv_if_ne (tgt := 128) C.1 C.2.1 dL_refunds_101 (by decide) (fun c101 => ?_) (fun c101 => ?_)
        · exact absurd rfl c101
        · refine lv_iload C.1 C.2.1 dL_refunds_104 (lv_at hl 0 rfl) ?_
          refine lv_bipush (v := (-8)) C.1 C.2.1 dL_refunds_106 (by decide) ?_
          refine lv_icmp_ne (tgt := 126) C.1 C.2.1 dL_refunds_108 (by decide) (fun c108 => ?_) (fun c108 => ?_)
          · exact absurd rfl c108
          · refine lv_aload_n C.1 C.2.1 dL_refunds_111 rfl (lv_at hl 5 rfl) ?_
            refine lv_iload_n C.1 C.2.1 dL_refunds_112 rfl (lv_at hl 7 rfl) ?_
            refine lv_iload_n C.1 C.2.1 dL_refunds_113 rfl (lv_at hl 8 rfl) ?_
            refine hv_ki I (va_runV (As := [.int (nI D), .int (nI j)]) (rest := []) C.fix (k_held l hlt G u_21 _ (isD_le (cut_le aa u_21) hD) bn (Nat.le_refl _) (by omega) hP.2.1 hDd hj (v := nI HH) w1) (cwV 2 C.2.2.2.2.1 gL_refunds_X4_held rfl rfl rfl (by decide +kernel) ⟨Nat.le_of_ble_eq_true rfl, Nat.le_of_ble_eq_true rfl⟩) (hv_preV C I (isD_0 (isD_le (cut_le aa u_21) hD)) (r := (RX4, TX4, 6)) rfl) rfl rfl hl.1 rfl (lv_room (Nat.le_of_ble_eq_true rfl)) dL_refunds_114 ⟨Nat.le_of_ble_eq_true rfl, Nat.le_of_ble_eq_true rfl⟩) (fun ru_22 u_22 H locs pu_22 I => ?_)
            obtain ⟨e1, e2⟩ := pu_22; have e1 := e1.symm; subst e1; have e2 := e2.symm; subst e2
            refine lv_iload C.1 C.2.1 dL_refunds_117 (lv_at hl 4 rfl) ?_
            refine lv_icmp_ne (tgt := 126) C.1 C.2.1 dL_refunds_119 (by decide) (fun c119 => ?_) (fun c119 => ?_)
            · exact absurd rfl c119
            · refine lv_iconst (v := 1) C.1 C.2.1 dL_refunds_122 (by decide) ?_
              refine lv_goto (tgt := 127) C.1 C.2.1 dL_refunds_123 (by decide) ?_
              exact hv_zret (v := 1) C hr I rfl (⟨rfl, inv_mk hD hN ⟨fH, fT, fP, fC, fZ⟩⟩) dL_refunds_127 (Nat.le_of_ble_eq_true rfl) (Nat.le_of_ble_eq_true rfl)
    · have c47 : ¬ (AA ≤ 0) := fun z => c47 ((nI_leI (a := AA) (b := 0) (by omega) (by omega)).mpr z)
      refine lv_aload C.1 C.2.1 dL_refunds_50 (lv_at hl 9 rfl) ?_
      refine lv_iconst (v := 0) C.1 C.2.1 dL_refunds_52 (by decide) ?_
      refine hv_ialdN (i := 0) C I fC (by decide) (by decide) dL_refunds_53 ?_
      refine lv_topi (fun z_23 ez_23 => ?_)
      have ez_23 := ez_23.trans (show _ = nI t by exact ec0)
      subst ez_23
      refine lv_aload C.1 C.2.1 dL_refunds_54 (lv_at hl 8 rfl) ?_
      refine lv_iload_n C.1 C.2.1 dL_refunds_56 rfl (lv_at hl 5 rfl) ?_
      refine hv_ialdN (i := D) C I fP (by omega) (by decide) dL_refunds_57 ?_
      refine lv_topi (fun z_24 ez_24 => ?_)
      have ez_24 := ez_24.trans (show _ = nI q by exact eq2)
      subst ez_24
      refine lv_isub C.1 C.2.1 dL_refunds_58 ?_
      refine lv_topi (fun z_25 ez_25 => ?_)
      have ez_25 := ez_25.trans (show _ = nI (t - q) by exact pk_sub (a := t) (b := q) (by omega))
      subst ez_25
      refine lv_iload_n C.1 C.2.1 dL_refunds_59 rfl (lv_at hl 4 rfl) ?_
      refine lv_if_ne (tgt := 68) C.1 C.2.1 dL_refunds_60 (by decide) (fun c60 => ?_) (fun c60 => ?_)
      · exact absurd rfl c60
      · refine lv_bipush (v := 60) C.1 C.2.1 dL_refunds_63 (by decide) ?_
        refine lv_goto (tgt := 71) C.1 C.2.1 dL_refunds_65 (by decide) ?_
        refine lv_icmp_gt (tgt := 87) C.1 C.2.1 dL_refunds_71 (by decide) (fun c71 => ?_) (fun c71 => ?_)
        · have c71 : 60 < t - q := (nI_ltI (a := 60) (b := t - q) (by omega) (by omega)).mp c71
          refine lv_iconst (v := 0) C.1 C.2.1 dL_refunds_87 (by decide) ?_
          refine lv_istore (lv' := [(11, .int 0), (10, .int 1), (9, .int (nI DD)), (8, .int (nI HH)), (0, .ref (ad 0 0)), (1, .int 0), (2, .int (nI D)), (3, .int (nI j)), (4, .ref (aa 0)), (5, .ref (aa 2)), (6, .ref (aa 3)), (7, .ref (aa 4))]) C.1 C.2.1 dL_refunds_88 hl (by decide) rfl (fun ls hl => ?_)
          refine lv_aload_n C.1 C.2.1 dL_refunds_90 rfl (lv_at hl 4 rfl) ?_
          refine lv_iload_n C.1 C.2.1 dL_refunds_91 rfl (lv_at hl 5 rfl) ?_
          refine lv_iload_n C.1 C.2.1 dL_refunds_92 rfl (lv_at hl 6 rfl) ?_
          refine lv_iload_n C.1 C.2.1 dL_refunds_93 rfl (lv_at hl 7 rfl) ?_
          have hA : lvA aa h := LV.A (G := G) ⟨fH, fT, fP, fC, fZ⟩
          refine hv_ki I (vx_runSW (As := [.ref (ad 0 0), .int 0, .int (nI D), .int (nI j)]) (rest := []) C.fix (a_refund l hlt G h _ hD hA hN hDd hj eq1 hq w1 w2 w3 w4 w5 w6) (vx_cwSW 4 C.2.2.2.2.1 gL_refunds_L_asks rfl rfl rfl (by decide +kernel) ⟨Nat.le_of_ble_eq_true rfl, Nat.le_of_ble_eq_true rfl⟩) (hv_preS C I) rfl rfl hl.1 rfl (lv_room (Nat.le_of_ble_eq_true rfl)) dL_refunds_94 ⟨Nat.le_of_ble_eq_true rfl, Nat.le_of_ble_eq_true rfl⟩) (fun ru_26 u_26 H locs pu_26 I => ?_)
          obtain ⟨hkp, hcase⟩ := pu_26
          have fH9 : u_26 (aa 0) = some (.inl (G.2.1 4, 20, .inr (.inl hF))) := (hkp _ (Or.inl rfl)).trans fH
          have fT9 : u_26 (aa 1) = some (.inl (G.2.1 0, 12, .inl tF)) := (hkp _ (Or.inr (Or.inl rfl))).trans fT
          have fP9 : u_26 (aa 2) = some (.inl (G.2.1 0, 13, .inl pF)) := (hkp _ (Or.inr (Or.inr (Or.inl rfl)))).trans fP
          have fC9 : u_26 (aa 3) = some (.inl (G.2.1 0, 3, .inl cF)) := (hkp _ (Or.inr (Or.inr (Or.inr (Or.inl rfl))))).trans fC
          have fZ9 : u_26 (aa 4) = some (.inl (G.2.1 4, 1, .inr (.inl zF))) := (hkp _ (Or.inr (Or.inr (Or.inr (Or.inr rfl))))).trans fZ
          have fH := fH9
          have fT := fT9
          have fP := fP9
          have fC := fC9
          have fZ := fZ9
          rcases hcase with ⟨s1, T, t1, t2, t3, t4, e2, hD⟩ | ⟨s1, e2, hD⟩
          · exfalso; omega
          · have e2 := e2.symm; subst e2
            refine lv_istore (lv' := [(12, .int (-8)), (11, .int 0), (10, .int 1), (9, .int (nI DD)), (8, .int (nI HH)), (0, .ref (ad 0 0)), (1, .int 0), (2, .int (nI D)), (3, .int (nI j)), (4, .ref (aa 0)), (5, .ref (aa 2)), (6, .ref (aa 3)), (7, .ref (aa 4))]) C.1 C.2.1 dL_refunds_97 hl (by decide) rfl (fun ls hl => ?_)
            refine lv_iload C.1 C.2.1 dL_refunds_99 (lv_at hl 1 rfl) ?_
            refine lv_if_ne (tgt := 128) C.1 C.2.1 dL_refunds_101 (by decide) (fun c101 => ?_) (fun c101 => ?_)
            · exact absurd rfl c101
            · refine lv_iload C.1 C.2.1 dL_refunds_104 (lv_at hl 0 rfl) ?_
              refine lv_bipush (v := (-8)) C.1 C.2.1 dL_refunds_106 (by decide) ?_
              refine lv_icmp_ne (tgt := 126) C.1 C.2.1 dL_refunds_108 (by decide) (fun c108 => ?_) (fun c108 => ?_)
              · exact absurd rfl c108
              · refine lv_aload_n C.1 C.2.1 dL_refunds_111 rfl (lv_at hl 5 rfl) ?_
                refine lv_iload_n C.1 C.2.1 dL_refunds_112 rfl (lv_at hl 7 rfl) ?_
                refine lv_iload_n C.1 C.2.1 dL_refunds_113 rfl (lv_at hl 8 rfl) ?_
                refine hv_ki I (va_runV (As := [.int (nI D), .int (nI j)]) (rest := []) C.fix (k_held l hlt G u_26 _ (isD_le (cut_le aa u_26) hD) bn (Nat.le_refl _) (by omega) hP.2.1 hDd hj (v := nI HH) w1) (cwV 2 C.2.2.2.2.1 gL_refunds_X4_held rfl rfl rfl (by decide +kernel) ⟨Nat.le_of_ble_eq_true rfl, Nat.le_of_ble_eq_true rfl⟩) (hv_preV C I (isD_0 (isD_le (cut_le aa u_26) hD)) (r := (RX4, TX4, 6)) rfl) rfl rfl hl.1 rfl (lv_room (Nat.le_of_ble_eq_true rfl)) dL_refunds_114 ⟨Nat.le_of_ble_eq_true rfl, Nat.le_of_ble_eq_true rfl⟩) (fun ru_27 u_27 H locs pu_27 I => ?_)
                obtain ⟨e1, e2⟩ := pu_27; have e1 := e1.symm; subst e1; have e2 := e2.symm; subst e2
                refine lv_iload C.1 C.2.1 dL_refunds_117 (lv_at hl 4 rfl) ?_
                refine lv_icmp_ne (tgt := 126) C.1 C.2.1 dL_refunds_119 (by decide) (fun c119 => ?_) (fun c119 => ?_)
                · exact absurd rfl c119
                · refine lv_iconst (v := 1) C.1 C.2.1 dL_refunds_122 (by decide) ?_
                  refine lv_goto (tgt := 127) C.1 C.2.1 dL_refunds_123 (by decide) ?_
                  exact hv_zret (v := 1) C hr I rfl (⟨rfl, inv_mk hD hN ⟨fH, fT, fP, fC, fZ⟩⟩) dL_refunds_127 (Nat.le_of_ble_eq_true rfl) (Nat.le_of_ble_eq_true rfl)
        · have c71 : ¬ (60 < t - q) := fun z => c71 ((nI_ltI (a := 60) (b := t - q) (by omega) (by omega)).mpr z)
          refine lv_iload_n C.1 C.2.1 dL_refunds_74 rfl (lv_at hl 4 rfl) ?_
          refine lv_if_eq (tgt := 83) C.1 C.2.1 dL_refunds_75 (by decide) (fun c75 => ?_) (fun c75 => ?_)
          · refine lv_iconst (v := 1) C.1 C.2.1 dL_refunds_83 (by decide) ?_
            refine lv_goto (tgt := 88) C.1 C.2.1 dL_refunds_84 (by decide) ?_
            refine lv_istore (lv' := [(11, .int 1), (10, .int 1), (9, .int (nI DD)), (8, .int (nI HH)), (0, .ref (ad 0 0)), (1, .int 0), (2, .int (nI D)), (3, .int (nI j)), (4, .ref (aa 0)), (5, .ref (aa 2)), (6, .ref (aa 3)), (7, .ref (aa 4))]) C.1 C.2.1 dL_refunds_88 hl (by decide) rfl (fun ls hl => ?_)
            refine lv_aload_n C.1 C.2.1 dL_refunds_90 rfl (lv_at hl 4 rfl) ?_
            refine lv_iload_n C.1 C.2.1 dL_refunds_91 rfl (lv_at hl 5 rfl) ?_
            refine lv_iload_n C.1 C.2.1 dL_refunds_92 rfl (lv_at hl 6 rfl) ?_
            refine lv_iload_n C.1 C.2.1 dL_refunds_93 rfl (lv_at hl 7 rfl) ?_
            have hA : lvA aa h := LV.A (G := G) ⟨fH, fT, fP, fC, fZ⟩
            refine hv_ki I (vx_runSW (As := [.ref (ad 0 0), .int 0, .int (nI D), .int (nI j)]) (rest := []) C.fix (a_refund l hlt G h _ hD hA hN hDd hj eq1 hq w1 w2 w3 w4 w5 w6) (vx_cwSW 4 C.2.2.2.2.1 gL_refunds_L_asks rfl rfl rfl (by decide +kernel) ⟨Nat.le_of_ble_eq_true rfl, Nat.le_of_ble_eq_true rfl⟩) (hv_preS C I) rfl rfl hl.1 rfl (lv_room (Nat.le_of_ble_eq_true rfl)) dL_refunds_94 ⟨Nat.le_of_ble_eq_true rfl, Nat.le_of_ble_eq_true rfl⟩) (fun ru_28 u_28 H locs pu_28 I => ?_)
            obtain ⟨hkp, hcase⟩ := pu_28
            have fH9 : u_28 (aa 0) = some (.inl (G.2.1 4, 20, .inr (.inl hF))) := (hkp _ (Or.inl rfl)).trans fH
            have fT9 : u_28 (aa 1) = some (.inl (G.2.1 0, 12, .inl tF)) := (hkp _ (Or.inr (Or.inl rfl))).trans fT
            have fP9 : u_28 (aa 2) = some (.inl (G.2.1 0, 13, .inl pF)) := (hkp _ (Or.inr (Or.inr (Or.inl rfl)))).trans fP
            have fC9 : u_28 (aa 3) = some (.inl (G.2.1 0, 3, .inl cF)) := (hkp _ (Or.inr (Or.inr (Or.inr (Or.inl rfl))))).trans fC
            have fZ9 : u_28 (aa 4) = some (.inl (G.2.1 4, 1, .inr (.inl zF))) := (hkp _ (Or.inr (Or.inr (Or.inr (Or.inr rfl))))).trans fZ
            have fH := fH9
            have fT := fT9
            have fP := fP9
            have fC := fC9
            have fZ := fZ9
            rcases hcase with ⟨s1, T, t1, t2, t3, t4, e2, hD⟩ | ⟨s1, e2, hD⟩
            · have e2 := e2.symm; subst e2
              have hg : ¬ ar 12 (20 * D + j) = 0 := fun z => by
                rw [w3] at z
                have := (nI_eq (a := AA) (b := 0) (by omega) (by decide)).mp z
                omega
              have w2x : tall (po (20 * D + j)) (-1) = nI DD := by
                rw [if_neg hg] at w2
                exact w2
              obtain ⟨ar1, har1⟩ : ∃ z, z = va_up ar 13 (upd (ar 13) (20 * D + j) (nI (HH - (HH - T)))) := ⟨_, rfl⟩
              rw [← har1] at hD
              have hN1 : Nm n d t ar1 po (rf + (nI (HH - T)).toInt64) hF tF pF cF (vp_updL zF 0 (rf + (nI (HH - T)).toInt64)) kd ld sh fo si g la := by rw [har1]; exact hN.held hDd (by omega) hg w3 w4 w2x (by omega) (by omega) (by omega) updL_eq rfl
              have w1b : (if ar1 12 (20 * D + j) = 0 then 0 else ar1 13 (20 * D + j)) = nI (HH - (HH - T)) := by rw [har1]; exact (if_neg hg).trans upd_eq
              have w2b : (if ar1 12 (20 * D + j) = 0 then 0 else tall (po (20 * D + j)) (-1)) = nI DD := by rw [har1]; exact w2
              have w3b : ar1 12 (20 * D + j) = nI AA := by rw [har1]; exact w3
              have eq1b : ar1 11 D = nI q := by rw [har1]; exact eq1
              have hgb : ¬ ar1 12 (20 * D + j) = 0 := by rw [har1]; exact hg
              refine lv_istore (lv' := [(12, .int (nI (HH - T))), (11, .int 1), (10, .int 1), (9, .int (nI DD)), (8, .int (nI HH)), (0, .ref (ad 0 0)), (1, .int 0), (2, .int (nI D)), (3, .int (nI j)), (4, .ref (aa 0)), (5, .ref (aa 2)), (6, .ref (aa 3)), (7, .ref (aa 4))]) C.1 C.2.1 dL_refunds_97 hl (by decide) rfl (fun ls hl => ?_)
              refine lv_iload C.1 C.2.1 dL_refunds_99 (lv_at hl 1 rfl) ?_
              refine lv_if_ne (tgt := 128) C.1 C.2.1 dL_refunds_101 (by decide) (fun c101 => ?_) (fun c101 => ?_)
              · refine lv_aload C.1 C.2.1 dL_refunds_128 (lv_at hl 12 rfl) ?_
                refine lv_iconst (v := 0) C.1 C.2.1 dL_refunds_130 (by decide) ?_
                refine lv_dup2_11 C.1 C.2.1 dL_refunds_131 rfl rfl ?_
                refine hv_laldN (i := 0) C I fZ (by decide) (by decide) dL_refunds_132 ?_
                refine lv_topl (fun z_29 ez_29 => ?_)
                have ez_29 := ez_29.trans (show _ = rf by exact ez0)
                have ez_29 := ez_29.symm
                subst ez_29
                refine lv_iload C.1 C.2.1 dL_refunds_133 (lv_at hl 0 rfl) ?_
                refine lv_i2l C.1 C.2.1 dL_refunds_135 rfl ?_
                refine lv_ladd C.1 C.2.1 dL_refunds_136 ?_
                refine hv_lastN (i := 0) C I fZ (by decide) (by decide) dL_refunds_137 (fun H locs I => ?_)
                obtain ⟨h_30, eh_30⟩ : ∃ z, z = hv_up u_28 (aa 4) (.inl (G.2.1 4, 1, .inr (.inl (vp_updL zF 0 (rf + ((nI (HH - T)).toInt64)))))) := ⟨_, rfl⟩
                have I : hv_I G h s h_30 H locs := by rw [eh_30]; exact I
                have hD : isD G (cut aa h_30) ad n d d (nI t) (rf + (nI (HH - T)).toInt64) ar1 fm po := by rw [eh_30, cut_up (Or.inr (Or.inr (Or.inr (Or.inr rfl))))]; exact hD
                have fH9 : h_30 (aa 0) = some (.inl (G.2.1 4, 20, .inr (.inl hF))) := by rw [eh_30, hv_up_ne (hv_neLen fH fZ (by decide))]; exact fH
                have fT9 : h_30 (aa 1) = some (.inl (G.2.1 0, 12, .inl tF)) := by rw [eh_30, hv_up_ne (hv_neLen fT fZ (by decide))]; exact fT
                have fP9 : h_30 (aa 2) = some (.inl (G.2.1 0, 13, .inl pF)) := by rw [eh_30, hv_up_ne (hv_neLen fP fZ (by decide))]; exact fP
                have fC9 : h_30 (aa 3) = some (.inl (G.2.1 0, 3, .inl cF)) := by rw [eh_30, hv_up_ne (hv_neLen fC fZ (by decide))]; exact fC
                have fZ9 : h_30 (aa 4) = some (.inl (G.2.1 4, 1, .inr (.inl (vp_updL zF 0 (rf + ((nI (HH - T)).toInt64)))))) := by rw [eh_30]; exact hv_up_eq
                have fH := fH9
                have fT := fT9
                have fP := fP9
                have fC := fC9
                have fZ := fZ9
                refine lv_iload C.1 C.2.1 dL_refunds_138 (lv_at hl 0 rfl) ?_
                refine lv_if_lt (tgt := 186) C.1 C.2.1 dL_refunds_140 (by decide) (fun c140 => ?_) (fun c140 => ?_)
                · have c140 : HH - T < 0 := (nI_ltI (a := HH - T) (b := 0) (by omega) (by omega)).mp c140
                  exfalso
                  omega
                · have c140 : ¬ (HH - T < 0) := fun z => c140 ((nI_ltI (a := HH - T) (b := 0) (by omega) (by omega)).mpr z)
                  refine lv_aload_n C.1 C.2.1 dL_refunds_143 rfl (lv_at hl 5 rfl) ?_
                  refine lv_iload_n C.1 C.2.1 dL_refunds_144 rfl (lv_at hl 7 rfl) ?_
                  refine lv_iload_n C.1 C.2.1 dL_refunds_145 rfl (lv_at hl 8 rfl) ?_
                  refine hv_ki I (va_runV (As := [.int (nI D), .int (nI j)]) (rest := []) C.fix (k_held l hlt G h_30 _ (isD_le (cut_le aa h_30) hD) bn (Nat.le_refl _) (by omega) hP.2.1 hDd hj (v := nI (HH - (HH - T))) w1b) (cwV 2 C.2.2.2.2.1 gL_refunds_X4_held rfl rfl rfl (by decide +kernel) ⟨Nat.le_of_ble_eq_true rfl, Nat.le_of_ble_eq_true rfl⟩) (hv_preV C I (isD_0 (isD_le (cut_le aa h_30) hD)) (r := (RX4, TX4, 6)) rfl) rfl rfl hl.1 rfl (lv_room (Nat.le_of_ble_eq_true rfl)) dL_refunds_146 ⟨Nat.le_of_ble_eq_true rfl, Nat.le_of_ble_eq_true rfl⟩) (fun ru_31 u_31 H locs pu_31 I => ?_)
                  obtain ⟨e1, e2⟩ := pu_31; have e1 := e1.symm; subst e1; have e2 := e2.symm; subst e2
                  refine lv_iload C.1 C.2.1 dL_refunds_149 (lv_at hl 4 rfl) ?_
                  refine lv_iload C.1 C.2.1 dL_refunds_151 (lv_at hl 0 rfl) ?_
                  refine lv_isub C.1 C.2.1 dL_refunds_153 ?_
                  refine lv_topi (fun z_32 ez_32 => ?_)
                  have ez_32 := ez_32.trans (show _ = nI (HH - (HH - T)) by exact pk_sub (a := HH) (b := (HH - T)) (by omega))
                  subst ez_32
                  refine lv_icmp_ne (tgt := 186) C.1 C.2.1 dL_refunds_154 (by decide) (fun c154 => ?_) (fun c154 => ?_)
                  · have c154 : ¬ (HH - (HH - T) = HH - (HH - T)) := fun z => c154 ((nI_eq (a := HH - (HH - T)) (b := HH - (HH - T)) (by omega) (by omega)).mpr z)
                    exfalso
                    omega
                  · have c154 : HH - (HH - T) = HH - (HH - T) := (nI_eq (a := HH - (HH - T)) (b := HH - (HH - T)) (by omega) (by omega)).mp c154
                    refine lv_aload_n C.1 C.2.1 dL_refunds_157 rfl (lv_at hl 5 rfl) ?_
                    refine lv_iload_n C.1 C.2.1 dL_refunds_158 rfl (lv_at hl 7 rfl) ?_
                    refine lv_iload_n C.1 C.2.1 dL_refunds_159 rfl (lv_at hl 8 rfl) ?_
                    refine hv_ki I (va_runV (As := [.int (nI D), .int (nI j)]) (rest := []) C.fix (k_held l hlt G h_30 _ (isD_le (cut_le aa h_30) hD) bn (Nat.le_refl _) (by omega) hP.2.1 hDd hj (v := nI (HH - (HH - T))) w1b) (cwV 2 C.2.2.2.2.1 gL_refunds_X4_held rfl rfl rfl (by decide +kernel) ⟨Nat.le_of_ble_eq_true rfl, Nat.le_of_ble_eq_true rfl⟩) (hv_preV C I (isD_0 (isD_le (cut_le aa h_30) hD)) (r := (RX4, TX4, 6)) rfl) rfl rfl hl.1 rfl (lv_room (Nat.le_of_ble_eq_true rfl)) dL_refunds_160 ⟨Nat.le_of_ble_eq_true rfl, Nat.le_of_ble_eq_true rfl⟩) (fun ru_33 u_33 H locs pu_33 I => ?_)
                    obtain ⟨e1, e2⟩ := pu_33; have e1 := e1.symm; subst e1; have e2 := e2.symm; subst e2
                    refine lv_iload C.1 C.2.1 dL_refunds_163 (lv_at hl 3 rfl) ?_
                    refine lv_icmp_lt (tgt := 186) C.1 C.2.1 dL_refunds_165 (by decide) (fun c165 => ?_) (fun c165 => ?_)
                    · have c165 : HH - (HH - T) < DD := (nI_ltI (a := HH - (HH - T)) (b := DD) (by omega) (by omega)).mp c165
                      exfalso
                      omega
                    · have c165 : ¬ (HH - (HH - T) < DD) := fun z => c165 ((nI_ltI (a := HH - (HH - T)) (b := DD) (by omega) (by omega)).mpr z)
                      refine lv_iload_n C.1 C.2.1 dL_refunds_168 rfl (lv_at hl 6 rfl) ?_
                      refine lv_if_eq (tgt := 182) C.1 C.2.1 dL_refunds_169 (by decide) (fun c169 => ?_) (fun c169 => ?_)
                      · refine lv_iconst (v := 1) C.1 C.2.1 dL_refunds_182 (by decide) ?_
                        refine lv_goto (tgt := 187) C.1 C.2.1 dL_refunds_183 (by decide) ?_
                        refine lv_istore (lv' := [(13, .int 1), (12, .int (nI (HH - T))), (11, .int 1), (10, .int 1), (9, .int (nI DD)), (8, .int (nI HH)), (0, .ref (ad 0 0)), (1, .int 0), (2, .int (nI D)), (3, .int (nI j)), (4, .ref (aa 0)), (5, .ref (aa 2)), (6, .ref (aa 3)), (7, .ref (aa 4))]) C.1 C.2.1 dL_refunds_187 hl (by decide) rfl (fun ls hl => ?_)
                        refine lv_iload_n C.1 C.2.1 dL_refunds_189 rfl (lv_at hl 7 rfl) ?_
                        refine lv_if_ne (tgt := 215) C.1 C.2.1 dL_refunds_190 (by decide) (fun c190 => ?_) (fun c190 => ?_)
                        · exact absurd rfl c190
                        · refine lv_iload C.1 C.2.1 dL_refunds_193 (lv_at hl 3 rfl) ?_
                          refine lv_if_eq (tgt := 215) C.1 C.2.1 dL_refunds_195 (by decide) (fun c195 => ?_) (fun c195 => ?_)
                          · exact absurd c195 (by decide)
                          · refine lv_aload C.1 C.2.1 dL_refunds_198 (lv_at hl 10 rfl) ?_
                            refine lv_iload_n C.1 C.2.1 dL_refunds_200 rfl (lv_at hl 9 rfl) ?_
                            refine hv_laldN (i := j) C I fH (by omega) (by decide) dL_refunds_201 ?_
                            refine lv_iconst (v := 0) C.1 C.2.1 dL_refunds_202 (by decide) ?_
                            refine lv_iconst (v := 2) C.1 C.2.1 dL_refunds_203 (by decide) ?_
                            refine hv_ki I (va_runS (As := [.long (hF j), .int 0, .int 2]) (rest := []) C.fix (c_L_part l G h_30 _ (hF j) 0 2 (v := nI (kd j)) hKj.2.1.1) (va_cwS 3 C.2.2.2.2.1 gL_refunds_L_part rfl rfl rfl (by decide +kernel) ⟨Nat.le_of_ble_eq_true rfl, Nat.le_of_ble_eq_true rfl⟩) (hv_preS C I) rfl rfl hl.1 rfl (lv_room (Nat.le_of_ble_eq_true rfl)) dL_refunds_204 ⟨Nat.le_of_ble_eq_true rfl, Nat.le_of_ble_eq_true rfl⟩) (fun ru_34 u_34 H locs pu_34 I => ?_)
                            obtain ⟨e1, e2⟩ := pu_34; have e1 := e1.symm; subst e1; have e2 := e2.symm; subst e2
                            refine lv_iconst (v := 2) C.1 C.2.1 dL_refunds_207 (by decide) ?_
                            refine lv_icmp_ge (tgt := 215) C.1 C.2.1 dL_refunds_208 (by decide) (fun c208 => ?_) (fun c208 => ?_)
                            · have c208 : 2 ≤ kd j := (nI_leI (a := 2) (b := kd j) (by omega) (by omega)).mp c208
                              refine lv_iconst (v := 0) C.1 C.2.1 dL_refunds_215 (by decide) ?_
                              refine lv_istore (lv' := [(14, .int 0), (13, .int 1), (12, .int (nI (HH - T))), (11, .int 1), (10, .int 1), (9, .int (nI DD)), (8, .int (nI HH)), (0, .ref (ad 0 0)), (1, .int 0), (2, .int (nI D)), (3, .int (nI j)), (4, .ref (aa 0)), (5, .ref (aa 2)), (6, .ref (aa 3)), (7, .ref (aa 4))]) C.1 C.2.1 dL_refunds_216 hl (by decide) rfl (fun ls hl => ?_)
                              refine lv_iload C.1 C.2.1 dL_refunds_218 (lv_at hl 1 rfl) ?_
                              refine lv_if_eq (tgt := 252) C.1 C.2.1 dL_refunds_220 (by decide) (fun c220 => ?_) (fun c220 => ?_)
                              · exact absurd c220 (by decide)
                              · refine lv_iload C.1 C.2.1 dL_refunds_223 (lv_at hl 0 rfl) ?_
                                refine lv_if_eq (tgt := 238) C.1 C.2.1 dL_refunds_225 (by decide) (fun c225 => ?_) (fun c225 => ?_)
                                · refine lv_aload_n C.1 C.2.1 dL_refunds_238 rfl (lv_at hl 7 rfl) ?_
                                  refine lv_iload_n C.1 C.2.1 dL_refunds_239 rfl (lv_at hl 8 rfl) ?_
                                  refine lv_iload_n C.1 C.2.1 dL_refunds_240 rfl (lv_at hl 9 rfl) ?_
                                  refine lv_iload_n C.1 C.2.1 dL_refunds_241 rfl (lv_at hl 10 rfl) ?_
                                  have hA : lvA aa h_30 := LV.A (G := G) ⟨fH, fT, fP, fC, fZ⟩
                                  refine hv_ki I (vx_runSW (As := [.ref (ad 0 0), .int 0, .int (nI D), .int (nI j)]) (rest := []) C.fix (a_refund l hlt G h_30 _ hD hA hN1 hDd hj eq1b hq w1b w2b w3b w4 (by omega) (by omega)) (vx_cwSW 4 C.2.2.2.2.1 gL_refunds_L_asks rfl rfl rfl (by decide +kernel) ⟨Nat.le_of_ble_eq_true rfl, Nat.le_of_ble_eq_true rfl⟩) (hv_preS C I) rfl rfl hl.1 rfl (lv_room (Nat.le_of_ble_eq_true rfl)) dL_refunds_242 ⟨Nat.le_of_ble_eq_true rfl, Nat.le_of_ble_eq_true rfl⟩) (fun ru_35 u_35 H locs pu_35 I => ?_)
                                  obtain ⟨hkp, hcase⟩ := pu_35
                                  have fH9 : u_35 (aa 0) = some (.inl (G.2.1 4, 20, .inr (.inl hF))) := (hkp _ (Or.inl rfl)).trans fH
                                  have fT9 : u_35 (aa 1) = some (.inl (G.2.1 0, 12, .inl tF)) := (hkp _ (Or.inr (Or.inl rfl))).trans fT
                                  have fP9 : u_35 (aa 2) = some (.inl (G.2.1 0, 13, .inl pF)) := (hkp _ (Or.inr (Or.inr (Or.inl rfl)))).trans fP
                                  have fC9 : u_35 (aa 3) = some (.inl (G.2.1 0, 3, .inl cF)) := (hkp _ (Or.inr (Or.inr (Or.inr (Or.inl rfl))))).trans fC
                                  have fZ9 : u_35 (aa 4) = some (.inl (G.2.1 4, 1, .inr (.inl (vp_updL zF 0 (rf + ((nI (HH - T)).toInt64)))))) := (hkp _ (Or.inr (Or.inr (Or.inr (Or.inr rfl))))).trans fZ
                                  have fH := fH9
                                  have fT := fT9
                                  have fP := fP9
                                  have fC := fC9
                                  have fZ := fZ9
                                  rcases hcase with ⟨s2, T2, u1, u2, u3, u4, e2, hD⟩ | ⟨s2, e2, hD⟩
                                  · have e2 := e2.symm; subst e2
                                    have eT : T2 = T := (nI_eq (by omega) (by omega)).mp (u4.symm.trans (show tall (po (20 * D + j)) (fm D ||| vfm (nI t) (ar1 7) n) = nI T by rw [har1]; exact t4))
                                    have hN2 := hN1.held hDd (by omega) hgb w3b w4 w2x (by omega) (show DD ≤ (HH - (HH - T)) - ((HH - (HH - T)) - T2) by omega) (by omega) (zF2 := vp_updL zF 0 (rf + (nI (HH - T)).toInt64)) (rf2 := (rf + (nI (HH - T)).toInt64) + (nI ((HH - (HH - T)) - T2)).toInt64) (by rw [updL_eq, show (HH - (HH - T)) - T2 = 0 by omega]; exact (add_l0 _).symm) rfl
                                    refine lv_if_ne (tgt := 252) C.1 C.2.1 dL_refunds_245 (by decide) (fun c245 => ?_) (fun c245 => ?_)
                                    · have c245 : ¬ ((HH - (HH - T)) - T2 = 0) := fun z => c245 ((nI_eq (a := (HH - (HH - T)) - T2) (b := 0) (by omega) (by omega)).mpr z)
                                      exfalso
                                      omega
                                    · have c245 : (HH - (HH - T)) - T2 = 0 := (nI_eq (a := (HH - (HH - T)) - T2) (b := 0) (by omega) (by omega)).mp c245
                                      refine lv_iconst (v := 1) C.1 C.2.1 dL_refunds_248 (by decide) ?_
                                      refine lv_goto (tgt := 253) C.1 C.2.1 dL_refunds_249 (by decide) ?_
                                      exact hv_zret (v := 1) C hr I rfl (⟨rfl, inv_mk hD hN2 ⟨fH, fT, fP, fC, fZ⟩⟩) dL_refunds_253 (Nat.le_of_ble_eq_true rfl) (Nat.le_of_ble_eq_true rfl)
                                  · exfalso; omega
                                · exact absurd rfl c225
                            · have c208 : ¬ (2 ≤ kd j) := fun z => c208 ((nI_leI (a := 2) (b := kd j) (by omega) (by omega)).mpr z)
                              have t5 := t3 (by omega) (by omega)
                              refine lv_iconst (v := 1) C.1 C.2.1 dL_refunds_211 (by decide) ?_
                              refine lv_goto (tgt := 216) C.1 C.2.1 dL_refunds_212 (by decide) ?_
                              refine lv_istore (lv' := [(14, .int 1), (13, .int 1), (12, .int (nI (HH - T))), (11, .int 1), (10, .int 1), (9, .int (nI DD)), (8, .int (nI HH)), (0, .ref (ad 0 0)), (1, .int 0), (2, .int (nI D)), (3, .int (nI j)), (4, .ref (aa 0)), (5, .ref (aa 2)), (6, .ref (aa 3)), (7, .ref (aa 4))]) C.1 C.2.1 dL_refunds_216 hl (by decide) rfl (fun ls hl => ?_)
                              refine lv_iload C.1 C.2.1 dL_refunds_218 (lv_at hl 1 rfl) ?_
                              refine lv_if_eq (tgt := 252) C.1 C.2.1 dL_refunds_220 (by decide) (fun c220 => ?_) (fun c220 => ?_)
                              · exact absurd c220 (by decide)
                              · refine lv_iload C.1 C.2.1 dL_refunds_223 (lv_at hl 0 rfl) ?_
                                refine lv_if_eq (tgt := 238) C.1 C.2.1 dL_refunds_225 (by decide) (fun c225 => ?_) (fun c225 => ?_)
                                · exact absurd c225 (by decide)
                                · refine lv_iload C.1 C.2.1 dL_refunds_228 (lv_at hl 2 rfl) ?_
                                  refine lv_iload C.1 C.2.1 dL_refunds_230 (lv_at hl 6 rfl) ?_
                                  refine lv_iload C.1 C.2.1 dL_refunds_232 (lv_at hl 5 rfl) ?_
                                  refine lv_isub C.1 C.2.1 dL_refunds_234 ?_
                                  refine lv_topi (fun z_36 ez_36 => ?_)
                                  have ez_36 := ez_36.trans (show _ = nI (HH - DD) by exact pk_sub (a := HH) (b := DD) (by omega))
                                  subst ez_36
                                  refine lv_icmp_ne (tgt := 252) C.1 C.2.1 dL_refunds_235 (by decide) (fun c235 => ?_) (fun c235 => ?_)
                                  · have c235 : ¬ (HH - T = HH - DD) := fun z => c235 ((nI_eq (a := HH - T) (b := HH - DD) (by omega) (by omega)).mpr z)
                                    exfalso
                                    omega
                                  · have c235 : HH - T = HH - DD := (nI_eq (a := HH - T) (b := HH - DD) (by omega) (by omega)).mp c235
                                    refine lv_aload_n C.1 C.2.1 dL_refunds_238 rfl (lv_at hl 7 rfl) ?_
                                    refine lv_iload_n C.1 C.2.1 dL_refunds_239 rfl (lv_at hl 8 rfl) ?_
                                    refine lv_iload_n C.1 C.2.1 dL_refunds_240 rfl (lv_at hl 9 rfl) ?_
                                    refine lv_iload_n C.1 C.2.1 dL_refunds_241 rfl (lv_at hl 10 rfl) ?_
                                    have hA : lvA aa h_30 := LV.A (G := G) ⟨fH, fT, fP, fC, fZ⟩
                                    refine hv_ki I (vx_runSW (As := [.ref (ad 0 0), .int 0, .int (nI D), .int (nI j)]) (rest := []) C.fix (a_refund l hlt G h_30 _ hD hA hN1 hDd hj eq1b hq w1b w2b w3b w4 (by omega) (by omega)) (vx_cwSW 4 C.2.2.2.2.1 gL_refunds_L_asks rfl rfl rfl (by decide +kernel) ⟨Nat.le_of_ble_eq_true rfl, Nat.le_of_ble_eq_true rfl⟩) (hv_preS C I) rfl rfl hl.1 rfl (lv_room (Nat.le_of_ble_eq_true rfl)) dL_refunds_242 ⟨Nat.le_of_ble_eq_true rfl, Nat.le_of_ble_eq_true rfl⟩) (fun ru_37 u_37 H locs pu_37 I => ?_)
                                    obtain ⟨hkp, hcase⟩ := pu_37
                                    have fH9 : u_37 (aa 0) = some (.inl (G.2.1 4, 20, .inr (.inl hF))) := (hkp _ (Or.inl rfl)).trans fH
                                    have fT9 : u_37 (aa 1) = some (.inl (G.2.1 0, 12, .inl tF)) := (hkp _ (Or.inr (Or.inl rfl))).trans fT
                                    have fP9 : u_37 (aa 2) = some (.inl (G.2.1 0, 13, .inl pF)) := (hkp _ (Or.inr (Or.inr (Or.inl rfl)))).trans fP
                                    have fC9 : u_37 (aa 3) = some (.inl (G.2.1 0, 3, .inl cF)) := (hkp _ (Or.inr (Or.inr (Or.inr (Or.inl rfl))))).trans fC
                                    have fZ9 : u_37 (aa 4) = some (.inl (G.2.1 4, 1, .inr (.inl (vp_updL zF 0 (rf + ((nI (HH - T)).toInt64)))))) := (hkp _ (Or.inr (Or.inr (Or.inr (Or.inr rfl))))).trans fZ
                                    have fH := fH9
                                    have fT := fT9
                                    have fP := fP9
                                    have fC := fC9
                                    have fZ := fZ9
                                    rcases hcase with ⟨s2, T2, u1, u2, u3, u4, e2, hD⟩ | ⟨s2, e2, hD⟩
                                    · have e2 := e2.symm; subst e2
                                      have eT : T2 = T := (nI_eq (by omega) (by omega)).mp (u4.symm.trans (show tall (po (20 * D + j)) (fm D ||| vfm (nI t) (ar1 7) n) = nI T by rw [har1]; exact t4))
                                      have hN2 := hN1.held hDd (by omega) hgb w3b w4 w2x (by omega) (show DD ≤ (HH - (HH - T)) - ((HH - (HH - T)) - T2) by omega) (by omega) (zF2 := vp_updL zF 0 (rf + (nI (HH - T)).toInt64)) (rf2 := (rf + (nI (HH - T)).toInt64) + (nI ((HH - (HH - T)) - T2)).toInt64) (by rw [updL_eq, show (HH - (HH - T)) - T2 = 0 by omega]; exact (add_l0 _).symm) rfl
                                      refine lv_if_ne (tgt := 252) C.1 C.2.1 dL_refunds_245 (by decide) (fun c245 => ?_) (fun c245 => ?_)
                                      · have c245 : ¬ ((HH - (HH - T)) - T2 = 0) := fun z => c245 ((nI_eq (a := (HH - (HH - T)) - T2) (b := 0) (by omega) (by omega)).mpr z)
                                        exfalso
                                        omega
                                      · have c245 : (HH - (HH - T)) - T2 = 0 := (nI_eq (a := (HH - (HH - T)) - T2) (b := 0) (by omega) (by omega)).mp c245
                                        refine lv_iconst (v := 1) C.1 C.2.1 dL_refunds_248 (by decide) ?_
                                        refine lv_goto (tgt := 253) C.1 C.2.1 dL_refunds_249 (by decide) ?_
                                        exact hv_zret (v := 1) C hr I rfl (⟨rfl, inv_mk hD hN2 ⟨fH, fT, fP, fC, fZ⟩⟩) dL_refunds_253 (Nat.le_of_ble_eq_true rfl) (Nat.le_of_ble_eq_true rfl)
                                    · exfalso; omega
                      · exact absurd rfl c169
              · exact absurd c101 (by decide)
            · exfalso; omega
          · exact absurd rfl c75

set_option maxHeartbeats 4000000 in
set_option maxRecDepth 100000 in
theorem c_L_refunds1 (l : Launch) (G : hv_G) (h : hv) (sz : Nat)  (hlt : l.stackTraces = false) {aa : Nat → Nat} {ad : Nat → Nat → Nat} {n d t : Nat} {rf : Int64} {ar : AR} {fm : Nat → Int32} {po : PO} {hF : Nat → Int64} {tF pF cF : Nat → Int32} {zF : Nat → Int64} {kd ld sh fo si g la : Nat → Nat} (hD : isD G (cut aa h) ad n d d (nI t) rf ar fm po) (hL : LV G aa h hF tF pF cF zF) (hN : Nm n d t ar po rf hF tF pF cF zF kd ld sh fo si g la) {D j : Nat} (hDd : D < d) (hj : j < n) : hv_Mi l yL_refunds wsL_refunds 14 500 60 400 G h sz [.ref (ad 0 0), .int 1, .int (nI D), .int (nI j), .ref (aa 0), .ref (aa 2), .ref (aa 3), .ref (aa 4)] (fun r u => r = 1 ∧ Inv G aa (ad 0 0) u) := by
  obtain ⟨fH, fT, fP, fC, fZ⟩ := id hL
  obtain ⟨⟨bn, bd, bt⟩, ⟨ec0, ec1, ec2, ez0⟩, hK, hS, hR, hZ, hQ, hP⟩ := id hN
  obtain ⟨q, hq, eq1, eq2⟩ := hP.2.2.1 D hDd
  have hKj := hK j hj
  obtain ⟨_, _, q1, q2, q3, q4⟩ := id hKj
  have qk : kd j ≤ 2 := by omega
  obtain ⟨HH, DD, AA, w1, w2, w3, w4, w5, w6⟩ := hN.at hDd hj
  refine hv_enter (y := yL_refunds) (avs := [.ref (ad 0 0), .int 1, .int (nI D), .int (nI j), .ref (aa 0), .ref (aa 2), .ref (aa 3), .ref (aa 4)]) (maxL := 15) (Qf := fun sz => va_Qi (fun r u => r = 1 ∧ Inv G aa (ad 0 0) u) (hv_Bq G h sz) (hv_A h sz)) (by decide) rfl rfl (Nat.le_of_ble_eq_true rfl) ?_
  intro p e s m below meth c hr hnm C I ls hl
  have hl : lv_has ls 15 [(0, .ref (ad 0 0)), (1, .int 1), (2, .int (nI D)), (3, .int (nI j)), (4, .ref (aa 0)), (5, .ref (aa 2)), (6, .ref (aa 3)), (7, .ref (aa 4))] := hl
  refine lv_aload_n C.1 C.2.1 dL_refunds_0 rfl (lv_at hl 0 rfl) ?_
  refine lv_iload_n C.1 C.2.1 dL_refunds_1 rfl (lv_at hl 2 rfl) ?_
  refine lv_iload_n C.1 C.2.1 dL_refunds_2 rfl (lv_at hl 3 rfl) ?_
  refine hv_ki I (va_runV (As := [.int (nI D), .int (nI j)]) (rest := []) C.fix (k_held l hlt G h _ (isD_le (cut_le aa h) hD) bn (Nat.le_refl _) (by omega) hP.2.1 hDd hj (v := nI HH) w1) (cwV 2 C.2.2.2.2.1 gL_refunds_X4_held rfl rfl rfl (by decide +kernel) ⟨Nat.le_of_ble_eq_true rfl, Nat.le_of_ble_eq_true rfl⟩) (hv_preV C I (isD_0 (isD_le (cut_le aa h) hD)) (r := (RX4, TX4, 6)) rfl) rfl rfl hl.1 rfl (lv_room (Nat.le_of_ble_eq_true rfl)) dL_refunds_3 ⟨Nat.le_of_ble_eq_true rfl, Nat.le_of_ble_eq_true rfl⟩) (fun ru_1 u_1 H locs pu_1 I => ?_)
  obtain ⟨e1, e2⟩ := pu_1; have e1 := e1.symm; subst e1; have e2 := e2.symm; subst e2
  refine lv_istore (lv' := [(8, .int (nI HH)), (0, .ref (ad 0 0)), (1, .int 1), (2, .int (nI D)), (3, .int (nI j)), (4, .ref (aa 0)), (5, .ref (aa 2)), (6, .ref (aa 3)), (7, .ref (aa 4))]) C.1 C.2.1 dL_refunds_6 hl (by decide) rfl (fun ls hl => ?_)
  refine lv_aload_n C.1 C.2.1 dL_refunds_8 rfl (lv_at hl 1 rfl) ?_
  refine lv_iload_n C.1 C.2.1 dL_refunds_9 rfl (lv_at hl 3 rfl) ?_
  refine lv_iload_n C.1 C.2.1 dL_refunds_10 rfl (lv_at hl 4 rfl) ?_
  refine hv_ki I (va_runV (As := [.int (nI D), .int (nI j)]) (rest := []) C.fix (k_due l hlt G h _ (isD_le (cut_le aa h) hD) bn (Nat.le_refl _) (by omega) hP.2.1 hDd hj (v := nI DD) w2) (cwV 2 C.2.2.2.2.1 gL_refunds_X4_due rfl rfl rfl (by decide +kernel) ⟨Nat.le_of_ble_eq_true rfl, Nat.le_of_ble_eq_true rfl⟩) (hv_preV C I (isD_0 (isD_le (cut_le aa h) hD)) (r := (RX4, TX4, 6)) rfl) rfl rfl hl.1 rfl (lv_room (Nat.le_of_ble_eq_true rfl)) dL_refunds_11 ⟨Nat.le_of_ble_eq_true rfl, Nat.le_of_ble_eq_true rfl⟩) (fun ru_2 u_2 H locs pu_2 I => ?_)
  obtain ⟨e1, e2⟩ := pu_2; have e1 := e1.symm; subst e1; have e2 := e2.symm; subst e2
  refine lv_istore (lv' := [(9, .int (nI DD)), (8, .int (nI HH)), (0, .ref (ad 0 0)), (1, .int 1), (2, .int (nI D)), (3, .int (nI j)), (4, .ref (aa 0)), (5, .ref (aa 2)), (6, .ref (aa 3)), (7, .ref (aa 4))]) C.1 C.2.1 dL_refunds_14 hl (by decide) rfl (fun ls hl => ?_)
  refine lv_aload C.1 C.2.1 dL_refunds_16 (lv_at hl 6 rfl) ?_
  refine lv_iload_n C.1 C.2.1 dL_refunds_18 rfl (lv_at hl 5 rfl) ?_
  refine hv_laldN (i := j) C I fH (by omega) (by decide) dL_refunds_19 ?_
  refine lv_bipush (v := 25) C.1 C.2.1 dL_refunds_20 (by decide) ?_
  refine lv_bipush (v := 15) C.1 C.2.1 dL_refunds_22 (by decide) ?_
  refine hv_ki I (va_runS (As := [.long (hF j), .int 25, .int 15]) (rest := []) C.fix (c_L_part l G h _ (hF j) 25 15 (v := nI (fo j)) hKj.2.1.2.2.2.1) (va_cwS 3 C.2.2.2.2.1 gL_refunds_L_part rfl rfl rfl (by decide +kernel) ⟨Nat.le_of_ble_eq_true rfl, Nat.le_of_ble_eq_true rfl⟩) (hv_preS C I) rfl rfl hl.1 rfl (lv_room (Nat.le_of_ble_eq_true rfl)) dL_refunds_24 ⟨Nat.le_of_ble_eq_true rfl, Nat.le_of_ble_eq_true rfl⟩) (fun ru_3 u_3 H locs pu_3 I => ?_)
  obtain ⟨e1, e2⟩ := pu_3; have e1 := e1.symm; subst e1; have e2 := e2.symm; subst e2
  refine lv_aload C.1 C.2.1 dL_refunds_27 (lv_at hl 8 rfl) ?_
  refine lv_iconst (v := 0) C.1 C.2.1 dL_refunds_29 (by decide) ?_
  refine hv_ialdN (i := 0) C I fC (by decide) (by decide) dL_refunds_30 ?_
  refine lv_topi (fun z_4 ez_4 => ?_)
  have ez_4 := ez_4.trans (show _ = nI t by exact ec0)
  subst ez_4
  refine lv_icmp_le (tgt := 38) C.1 C.2.1 dL_refunds_31 (by decide) (fun c31 => ?_) (fun c31 => ?_)
  · have c31 : fo j ≤ t := (nI_leI (a := fo j) (b := t) (by omega) (by omega)).mp c31
    refine lv_iconst (v := 0) C.1 C.2.1 dL_refunds_38 (by decide) ?_
    refine lv_istore (lv' := [(10, .int 0), (9, .int (nI DD)), (8, .int (nI HH)), (0, .ref (ad 0 0)), (1, .int 1), (2, .int (nI D)), (3, .int (nI j)), (4, .ref (aa 0)), (5, .ref (aa 2)), (6, .ref (aa 3)), (7, .ref (aa 4))]) C.1 C.2.1 dL_refunds_39 hl (by decide) rfl (fun ls hl => ?_)
    refine lv_aload_n C.1 C.2.1 dL_refunds_41 rfl (lv_at hl 3 rfl) ?_
    refine lv_iload_n C.1 C.2.1 dL_refunds_42 rfl (lv_at hl 5 rfl) ?_
    refine lv_iload_n C.1 C.2.1 dL_refunds_43 rfl (lv_at hl 6 rfl) ?_
    refine hv_ki I (va_runV (As := [.int (nI D), .int (nI j)]) (rest := []) C.fix (k_gross l hlt G h _ (isD_le (cut_le aa h) hD) bn (Nat.le_refl _) (by omega) hP.2.1 hDd hj (v := nI AA) w3) (cwV 2 C.2.2.2.2.1 gL_refunds_X4_gross rfl rfl rfl (by decide +kernel) ⟨Nat.le_of_ble_eq_true rfl, Nat.le_of_ble_eq_true rfl⟩) (hv_preV C I (isD_0 (isD_le (cut_le aa h) hD)) (r := (RX4, TX4, 6)) rfl) rfl rfl hl.1 rfl (lv_room (Nat.le_of_ble_eq_true rfl)) dL_refunds_44 ⟨Nat.le_of_ble_eq_true rfl, Nat.le_of_ble_eq_true rfl⟩) (fun ru_5 u_5 H locs pu_5 I => ?_)
    obtain ⟨e1, e2⟩ := pu_5; have e1 := e1.symm; subst e1; have e2 := e2.symm; subst e2
    refine lv_if_le (tgt := 87) C.1 C.2.1 dL_refunds_47 (by decide) (fun c47 => ?_) (fun c47 => ?_)
    · have c47 : AA ≤ 0 := (nI_leI (a := AA) (b := 0) (by omega) (by omega)).mp c47
      refine lv_iconst (v := 0) C.1 C.2.1 dL_refunds_87 (by decide) ?_
      refine lv_istore (lv' := [(11, .int 0), (10, .int 0), (9, .int (nI DD)), (8, .int (nI HH)), (0, .ref (ad 0 0)), (1, .int 1), (2, .int (nI D)), (3, .int (nI j)), (4, .ref (aa 0)), (5, .ref (aa 2)), (6, .ref (aa 3)), (7, .ref (aa 4))]) C.1 C.2.1 dL_refunds_88 hl (by decide) rfl (fun ls hl => ?_)
      refine lv_aload_n C.1 C.2.1 dL_refunds_90 rfl (lv_at hl 4 rfl) ?_
      refine lv_iload_n C.1 C.2.1 dL_refunds_91 rfl (lv_at hl 5 rfl) ?_
      refine lv_iload_n C.1 C.2.1 dL_refunds_92 rfl (lv_at hl 6 rfl) ?_
      refine lv_iload_n C.1 C.2.1 dL_refunds_93 rfl (lv_at hl 7 rfl) ?_
      have hA : lvA aa h := LV.A (G := G) ⟨fH, fT, fP, fC, fZ⟩
      refine hv_ki I (vx_runSW (As := [.ref (ad 0 0), .int 1, .int (nI D), .int (nI j)]) (rest := []) C.fix (a_claim l hlt G h _ hD hA hN hDd hj eq1 hq w1 w2 w3 w4 w5 w6) (vx_cwSW 4 C.2.2.2.2.1 gL_refunds_L_asks rfl rfl rfl (by decide +kernel) ⟨Nat.le_of_ble_eq_true rfl, Nat.le_of_ble_eq_true rfl⟩) (hv_preS C I) rfl rfl hl.1 rfl (lv_room (Nat.le_of_ble_eq_true rfl)) dL_refunds_94 ⟨Nat.le_of_ble_eq_true rfl, Nat.le_of_ble_eq_true rfl⟩) (fun ru_6 u_6 H locs pu_6 I => ?_)
      obtain ⟨hkp, hcase⟩ := pu_6
      have fH9 : u_6 (aa 0) = some (.inl (G.2.1 4, 20, .inr (.inl hF))) := (hkp _ (Or.inl rfl)).trans fH
      have fT9 : u_6 (aa 1) = some (.inl (G.2.1 0, 12, .inl tF)) := (hkp _ (Or.inr (Or.inl rfl))).trans fT
      have fP9 : u_6 (aa 2) = some (.inl (G.2.1 0, 13, .inl pF)) := (hkp _ (Or.inr (Or.inr (Or.inl rfl)))).trans fP
      have fC9 : u_6 (aa 3) = some (.inl (G.2.1 0, 3, .inl cF)) := (hkp _ (Or.inr (Or.inr (Or.inr (Or.inl rfl))))).trans fC
      have fZ9 : u_6 (aa 4) = some (.inl (G.2.1 4, 1, .inr (.inl zF))) := (hkp _ (Or.inr (Or.inr (Or.inr (Or.inr rfl))))).trans fZ
      have fH := fH9
      have fT := fT9
      have fP := fP9
      have fC := fC9
      have fZ := fZ9
      rcases hcase with ⟨s1, T, t1, t2, t3, t4, e2, hD⟩ | ⟨s1, e2, hD⟩
      · exfalso; omega
      · have e2 := e2.symm; subst e2
        refine lv_istore (lv' := [(12, .int (-8)), (11, .int 0), (10, .int 0), (9, .int (nI DD)), (8, .int (nI HH)), (0, .ref (ad 0 0)), (1, .int 1), (2, .int (nI D)), (3, .int (nI j)), (4, .ref (aa 0)), (5, .ref (aa 2)), (6, .ref (aa 3)), (7, .ref (aa 4))]) C.1 C.2.1 dL_refunds_97 hl (by decide) rfl (fun ls hl => ?_)
        refine lv_iload C.1 C.2.1 dL_refunds_99 (lv_at hl 1 rfl) ?_
        refine lv_if_ne (tgt := 128) C.1 C.2.1 dL_refunds_101 (by decide) (fun c101 => ?_) (fun c101 => ?_)
        · exact absurd rfl c101
        · refine lv_iload C.1 C.2.1 dL_refunds_104 (lv_at hl 0 rfl) ?_
          refine lv_bipush (v := (-8)) C.1 C.2.1 dL_refunds_106 (by decide) ?_
          refine lv_icmp_ne (tgt := 126) C.1 C.2.1 dL_refunds_108 (by decide) (fun c108 => ?_) (fun c108 => ?_)
          · exact absurd rfl c108
          · refine lv_aload_n C.1 C.2.1 dL_refunds_111 rfl (lv_at hl 5 rfl) ?_
            refine lv_iload_n C.1 C.2.1 dL_refunds_112 rfl (lv_at hl 7 rfl) ?_
            refine lv_iload_n C.1 C.2.1 dL_refunds_113 rfl (lv_at hl 8 rfl) ?_
            refine hv_ki I (va_runV (As := [.int (nI D), .int (nI j)]) (rest := []) C.fix (k_held l hlt G u_6 _ (isD_le (cut_le aa u_6) hD) bn (Nat.le_refl _) (by omega) hP.2.1 hDd hj (v := nI HH) w1) (cwV 2 C.2.2.2.2.1 gL_refunds_X4_held rfl rfl rfl (by decide +kernel) ⟨Nat.le_of_ble_eq_true rfl, Nat.le_of_ble_eq_true rfl⟩) (hv_preV C I (isD_0 (isD_le (cut_le aa u_6) hD)) (r := (RX4, TX4, 6)) rfl) rfl rfl hl.1 rfl (lv_room (Nat.le_of_ble_eq_true rfl)) dL_refunds_114 ⟨Nat.le_of_ble_eq_true rfl, Nat.le_of_ble_eq_true rfl⟩) (fun ru_7 u_7 H locs pu_7 I => ?_)
            obtain ⟨e1, e2⟩ := pu_7; have e1 := e1.symm; subst e1; have e2 := e2.symm; subst e2
            refine lv_iload C.1 C.2.1 dL_refunds_117 (lv_at hl 4 rfl) ?_
            refine lv_icmp_ne (tgt := 126) C.1 C.2.1 dL_refunds_119 (by decide) (fun c119 => ?_) (fun c119 => ?_)
            · exact absurd rfl c119
            · refine lv_iconst (v := 1) C.1 C.2.1 dL_refunds_122 (by decide) ?_
              refine lv_goto (tgt := 127) C.1 C.2.1 dL_refunds_123 (by decide) ?_
              exact hv_zret (v := 1) C hr I rfl (⟨rfl, inv_mk hD hN ⟨fH, fT, fP, fC, fZ⟩⟩) dL_refunds_127 (Nat.le_of_ble_eq_true rfl) (Nat.le_of_ble_eq_true rfl)
    · have c47 : ¬ (AA ≤ 0) := fun z => c47 ((nI_leI (a := AA) (b := 0) (by omega) (by omega)).mpr z)
      refine lv_aload C.1 C.2.1 dL_refunds_50 (lv_at hl 9 rfl) ?_
      refine lv_iconst (v := 0) C.1 C.2.1 dL_refunds_52 (by decide) ?_
      refine hv_ialdN (i := 0) C I fC (by decide) (by decide) dL_refunds_53 ?_
      refine lv_topi (fun z_8 ez_8 => ?_)
      have ez_8 := ez_8.trans (show _ = nI t by exact ec0)
      subst ez_8
      refine lv_aload C.1 C.2.1 dL_refunds_54 (lv_at hl 8 rfl) ?_
      refine lv_iload_n C.1 C.2.1 dL_refunds_56 rfl (lv_at hl 5 rfl) ?_
      refine hv_ialdN (i := D) C I fP (by omega) (by decide) dL_refunds_57 ?_
      refine lv_topi (fun z_9 ez_9 => ?_)
      have ez_9 := ez_9.trans (show _ = nI q by exact eq2)
      subst ez_9
      refine lv_isub C.1 C.2.1 dL_refunds_58 ?_
      refine lv_topi (fun z_10 ez_10 => ?_)
      have ez_10 := ez_10.trans (show _ = nI (t - q) by exact pk_sub (a := t) (b := q) (by omega))
      subst ez_10
      refine lv_iload_n C.1 C.2.1 dL_refunds_59 rfl (lv_at hl 4 rfl) ?_
      refine lv_if_ne (tgt := 68) C.1 C.2.1 dL_refunds_60 (by decide) (fun c60 => ?_) (fun c60 => ?_)
      · refine lv_sipush (v := 1080) C.1 C.2.1 dL_refunds_68 (by decide) ?_
        refine lv_icmp_gt (tgt := 87) C.1 C.2.1 dL_refunds_71 (by decide) (fun c71 => ?_) (fun c71 => ?_)
        · have c71 : 1080 < t - q := (nI_ltI (a := 1080) (b := t - q) (by omega) (by omega)).mp c71
          refine lv_iconst (v := 0) C.1 C.2.1 dL_refunds_87 (by decide) ?_
          refine lv_istore (lv' := [(11, .int 0), (10, .int 0), (9, .int (nI DD)), (8, .int (nI HH)), (0, .ref (ad 0 0)), (1, .int 1), (2, .int (nI D)), (3, .int (nI j)), (4, .ref (aa 0)), (5, .ref (aa 2)), (6, .ref (aa 3)), (7, .ref (aa 4))]) C.1 C.2.1 dL_refunds_88 hl (by decide) rfl (fun ls hl => ?_)
          refine lv_aload_n C.1 C.2.1 dL_refunds_90 rfl (lv_at hl 4 rfl) ?_
          refine lv_iload_n C.1 C.2.1 dL_refunds_91 rfl (lv_at hl 5 rfl) ?_
          refine lv_iload_n C.1 C.2.1 dL_refunds_92 rfl (lv_at hl 6 rfl) ?_
          refine lv_iload_n C.1 C.2.1 dL_refunds_93 rfl (lv_at hl 7 rfl) ?_
          have hA : lvA aa h := LV.A (G := G) ⟨fH, fT, fP, fC, fZ⟩
          refine hv_ki I (vx_runSW (As := [.ref (ad 0 0), .int 1, .int (nI D), .int (nI j)]) (rest := []) C.fix (a_claim l hlt G h _ hD hA hN hDd hj eq1 hq w1 w2 w3 w4 w5 w6) (vx_cwSW 4 C.2.2.2.2.1 gL_refunds_L_asks rfl rfl rfl (by decide +kernel) ⟨Nat.le_of_ble_eq_true rfl, Nat.le_of_ble_eq_true rfl⟩) (hv_preS C I) rfl rfl hl.1 rfl (lv_room (Nat.le_of_ble_eq_true rfl)) dL_refunds_94 ⟨Nat.le_of_ble_eq_true rfl, Nat.le_of_ble_eq_true rfl⟩) (fun ru_11 u_11 H locs pu_11 I => ?_)
          obtain ⟨hkp, hcase⟩ := pu_11
          have fH9 : u_11 (aa 0) = some (.inl (G.2.1 4, 20, .inr (.inl hF))) := (hkp _ (Or.inl rfl)).trans fH
          have fT9 : u_11 (aa 1) = some (.inl (G.2.1 0, 12, .inl tF)) := (hkp _ (Or.inr (Or.inl rfl))).trans fT
          have fP9 : u_11 (aa 2) = some (.inl (G.2.1 0, 13, .inl pF)) := (hkp _ (Or.inr (Or.inr (Or.inl rfl)))).trans fP
          have fC9 : u_11 (aa 3) = some (.inl (G.2.1 0, 3, .inl cF)) := (hkp _ (Or.inr (Or.inr (Or.inr (Or.inl rfl))))).trans fC
          have fZ9 : u_11 (aa 4) = some (.inl (G.2.1 4, 1, .inr (.inl zF))) := (hkp _ (Or.inr (Or.inr (Or.inr (Or.inr rfl))))).trans fZ
          have fH := fH9
          have fT := fT9
          have fP := fP9
          have fC := fC9
          have fZ := fZ9
          rcases hcase with ⟨s1, T, t1, t2, t3, t4, e2, hD⟩ | ⟨s1, e2, hD⟩
          · exfalso; omega
          · have e2 := e2.symm; subst e2
            refine lv_istore (lv' := [(12, .int (-8)), (11, .int 0), (10, .int 0), (9, .int (nI DD)), (8, .int (nI HH)), (0, .ref (ad 0 0)), (1, .int 1), (2, .int (nI D)), (3, .int (nI j)), (4, .ref (aa 0)), (5, .ref (aa 2)), (6, .ref (aa 3)), (7, .ref (aa 4))]) C.1 C.2.1 dL_refunds_97 hl (by decide) rfl (fun ls hl => ?_)
            refine lv_iload C.1 C.2.1 dL_refunds_99 (lv_at hl 1 rfl) ?_
            refine lv_if_ne (tgt := 128) C.1 C.2.1 dL_refunds_101 (by decide) (fun c101 => ?_) (fun c101 => ?_)
            · exact absurd rfl c101
            · refine lv_iload C.1 C.2.1 dL_refunds_104 (lv_at hl 0 rfl) ?_
              refine lv_bipush (v := (-8)) C.1 C.2.1 dL_refunds_106 (by decide) ?_
              refine lv_icmp_ne (tgt := 126) C.1 C.2.1 dL_refunds_108 (by decide) (fun c108 => ?_) (fun c108 => ?_)
              · exact absurd rfl c108
              · refine lv_aload_n C.1 C.2.1 dL_refunds_111 rfl (lv_at hl 5 rfl) ?_
                refine lv_iload_n C.1 C.2.1 dL_refunds_112 rfl (lv_at hl 7 rfl) ?_
                refine lv_iload_n C.1 C.2.1 dL_refunds_113 rfl (lv_at hl 8 rfl) ?_
                refine hv_ki I (va_runV (As := [.int (nI D), .int (nI j)]) (rest := []) C.fix (k_held l hlt G u_11 _ (isD_le (cut_le aa u_11) hD) bn (Nat.le_refl _) (by omega) hP.2.1 hDd hj (v := nI HH) w1) (cwV 2 C.2.2.2.2.1 gL_refunds_X4_held rfl rfl rfl (by decide +kernel) ⟨Nat.le_of_ble_eq_true rfl, Nat.le_of_ble_eq_true rfl⟩) (hv_preV C I (isD_0 (isD_le (cut_le aa u_11) hD)) (r := (RX4, TX4, 6)) rfl) rfl rfl hl.1 rfl (lv_room (Nat.le_of_ble_eq_true rfl)) dL_refunds_114 ⟨Nat.le_of_ble_eq_true rfl, Nat.le_of_ble_eq_true rfl⟩) (fun ru_12 u_12 H locs pu_12 I => ?_)
                obtain ⟨e1, e2⟩ := pu_12; have e1 := e1.symm; subst e1; have e2 := e2.symm; subst e2
                refine lv_iload C.1 C.2.1 dL_refunds_117 (lv_at hl 4 rfl) ?_
                refine lv_icmp_ne (tgt := 126) C.1 C.2.1 dL_refunds_119 (by decide) (fun c119 => ?_) (fun c119 => ?_)
                · exact absurd rfl c119
                · refine lv_iconst (v := 1) C.1 C.2.1 dL_refunds_122 (by decide) ?_
                  refine lv_goto (tgt := 127) C.1 C.2.1 dL_refunds_123 (by decide) ?_
                  exact hv_zret (v := 1) C hr I rfl (⟨rfl, inv_mk hD hN ⟨fH, fT, fP, fC, fZ⟩⟩) dL_refunds_127 (Nat.le_of_ble_eq_true rfl) (Nat.le_of_ble_eq_true rfl)
        · have c71 : ¬ (1080 < t - q) := fun z => c71 ((nI_ltI (a := 1080) (b := t - q) (by omega) (by omega)).mpr z)
          refine lv_iload_n C.1 C.2.1 dL_refunds_74 rfl (lv_at hl 4 rfl) ?_
          refine lv_if_eq (tgt := 83) C.1 C.2.1 dL_refunds_75 (by decide) (fun c75 => ?_) (fun c75 => ?_)
          · exact absurd c75 (by decide)
          · refine lv_iload C.1 C.2.1 dL_refunds_78 (lv_at hl 0 rfl) ?_
            refine lv_if_eq (tgt := 87) C.1 C.2.1 dL_refunds_80 (by decide) (fun c80 => ?_) (fun c80 => ?_)
            · refine lv_iconst (v := 0) C.1 C.2.1 dL_refunds_87 (by decide) ?_
              refine lv_istore (lv' := [(11, .int 0), (10, .int 0), (9, .int (nI DD)), (8, .int (nI HH)), (0, .ref (ad 0 0)), (1, .int 1), (2, .int (nI D)), (3, .int (nI j)), (4, .ref (aa 0)), (5, .ref (aa 2)), (6, .ref (aa 3)), (7, .ref (aa 4))]) C.1 C.2.1 dL_refunds_88 hl (by decide) rfl (fun ls hl => ?_)
              refine lv_aload_n C.1 C.2.1 dL_refunds_90 rfl (lv_at hl 4 rfl) ?_
              refine lv_iload_n C.1 C.2.1 dL_refunds_91 rfl (lv_at hl 5 rfl) ?_
              refine lv_iload_n C.1 C.2.1 dL_refunds_92 rfl (lv_at hl 6 rfl) ?_
              refine lv_iload_n C.1 C.2.1 dL_refunds_93 rfl (lv_at hl 7 rfl) ?_
              have hA : lvA aa h := LV.A (G := G) ⟨fH, fT, fP, fC, fZ⟩
              refine hv_ki I (vx_runSW (As := [.ref (ad 0 0), .int 1, .int (nI D), .int (nI j)]) (rest := []) C.fix (a_claim l hlt G h _ hD hA hN hDd hj eq1 hq w1 w2 w3 w4 w5 w6) (vx_cwSW 4 C.2.2.2.2.1 gL_refunds_L_asks rfl rfl rfl (by decide +kernel) ⟨Nat.le_of_ble_eq_true rfl, Nat.le_of_ble_eq_true rfl⟩) (hv_preS C I) rfl rfl hl.1 rfl (lv_room (Nat.le_of_ble_eq_true rfl)) dL_refunds_94 ⟨Nat.le_of_ble_eq_true rfl, Nat.le_of_ble_eq_true rfl⟩) (fun ru_13 u_13 H locs pu_13 I => ?_)
              obtain ⟨hkp, hcase⟩ := pu_13
              have fH9 : u_13 (aa 0) = some (.inl (G.2.1 4, 20, .inr (.inl hF))) := (hkp _ (Or.inl rfl)).trans fH
              have fT9 : u_13 (aa 1) = some (.inl (G.2.1 0, 12, .inl tF)) := (hkp _ (Or.inr (Or.inl rfl))).trans fT
              have fP9 : u_13 (aa 2) = some (.inl (G.2.1 0, 13, .inl pF)) := (hkp _ (Or.inr (Or.inr (Or.inl rfl)))).trans fP
              have fC9 : u_13 (aa 3) = some (.inl (G.2.1 0, 3, .inl cF)) := (hkp _ (Or.inr (Or.inr (Or.inr (Or.inl rfl))))).trans fC
              have fZ9 : u_13 (aa 4) = some (.inl (G.2.1 4, 1, .inr (.inl zF))) := (hkp _ (Or.inr (Or.inr (Or.inr (Or.inr rfl))))).trans fZ
              have fH := fH9
              have fT := fT9
              have fP := fP9
              have fC := fC9
              have fZ := fZ9
              rcases hcase with ⟨s1, T, t1, t2, t3, t4, e2, hD⟩ | ⟨s1, e2, hD⟩
              · exfalso; omega
              · have e2 := e2.symm; subst e2
                refine lv_istore (lv' := [(12, .int (-8)), (11, .int 0), (10, .int 0), (9, .int (nI DD)), (8, .int (nI HH)), (0, .ref (ad 0 0)), (1, .int 1), (2, .int (nI D)), (3, .int (nI j)), (4, .ref (aa 0)), (5, .ref (aa 2)), (6, .ref (aa 3)), (7, .ref (aa 4))]) C.1 C.2.1 dL_refunds_97 hl (by decide) rfl (fun ls hl => ?_)
                refine lv_iload C.1 C.2.1 dL_refunds_99 (lv_at hl 1 rfl) ?_
                refine lv_if_ne (tgt := 128) C.1 C.2.1 dL_refunds_101 (by decide) (fun c101 => ?_) (fun c101 => ?_)
                · exact absurd rfl c101
                · refine lv_iload C.1 C.2.1 dL_refunds_104 (lv_at hl 0 rfl) ?_
                  refine lv_bipush (v := (-8)) C.1 C.2.1 dL_refunds_106 (by decide) ?_
                  refine lv_icmp_ne (tgt := 126) C.1 C.2.1 dL_refunds_108 (by decide) (fun c108 => ?_) (fun c108 => ?_)
                  · exact absurd rfl c108
                  · refine lv_aload_n C.1 C.2.1 dL_refunds_111 rfl (lv_at hl 5 rfl) ?_
                    refine lv_iload_n C.1 C.2.1 dL_refunds_112 rfl (lv_at hl 7 rfl) ?_
                    refine lv_iload_n C.1 C.2.1 dL_refunds_113 rfl (lv_at hl 8 rfl) ?_
                    refine hv_ki I (va_runV (As := [.int (nI D), .int (nI j)]) (rest := []) C.fix (k_held l hlt G u_13 _ (isD_le (cut_le aa u_13) hD) bn (Nat.le_refl _) (by omega) hP.2.1 hDd hj (v := nI HH) w1) (cwV 2 C.2.2.2.2.1 gL_refunds_X4_held rfl rfl rfl (by decide +kernel) ⟨Nat.le_of_ble_eq_true rfl, Nat.le_of_ble_eq_true rfl⟩) (hv_preV C I (isD_0 (isD_le (cut_le aa u_13) hD)) (r := (RX4, TX4, 6)) rfl) rfl rfl hl.1 rfl (lv_room (Nat.le_of_ble_eq_true rfl)) dL_refunds_114 ⟨Nat.le_of_ble_eq_true rfl, Nat.le_of_ble_eq_true rfl⟩) (fun ru_14 u_14 H locs pu_14 I => ?_)
                    obtain ⟨e1, e2⟩ := pu_14; have e1 := e1.symm; subst e1; have e2 := e2.symm; subst e2
                    refine lv_iload C.1 C.2.1 dL_refunds_117 (lv_at hl 4 rfl) ?_
                    refine lv_icmp_ne (tgt := 126) C.1 C.2.1 dL_refunds_119 (by decide) (fun c119 => ?_) (fun c119 => ?_)
                    · exact absurd rfl c119
                    · refine lv_iconst (v := 1) C.1 C.2.1 dL_refunds_122 (by decide) ?_
                      refine lv_goto (tgt := 127) C.1 C.2.1 dL_refunds_123 (by decide) ?_
                      exact hv_zret (v := 1) C hr I rfl (⟨rfl, inv_mk hD hN ⟨fH, fT, fP, fC, fZ⟩⟩) dL_refunds_127 (Nat.le_of_ble_eq_true rfl) (Nat.le_of_ble_eq_true rfl)
            · exact absurd rfl c80
      · exact absurd c60 (by decide)
  · have c31 : ¬ (fo j ≤ t) := fun z => c31 ((nI_leI (a := fo j) (b := t) (by omega) (by omega)).mpr z)
    refine lv_iconst (v := 1) C.1 C.2.1 dL_refunds_34 (by decide) ?_
    refine lv_goto (tgt := 39) C.1 C.2.1 dL_refunds_35 (by decide) ?_
    refine lv_istore (lv' := [(10, .int 1), (9, .int (nI DD)), (8, .int (nI HH)), (0, .ref (ad 0 0)), (1, .int 1), (2, .int (nI D)), (3, .int (nI j)), (4, .ref (aa 0)), (5, .ref (aa 2)), (6, .ref (aa 3)), (7, .ref (aa 4))]) C.1 C.2.1 dL_refunds_39 hl (by decide) rfl (fun ls hl => ?_)
    refine lv_aload_n C.1 C.2.1 dL_refunds_41 rfl (lv_at hl 3 rfl) ?_
    refine lv_iload_n C.1 C.2.1 dL_refunds_42 rfl (lv_at hl 5 rfl) ?_
    refine lv_iload_n C.1 C.2.1 dL_refunds_43 rfl (lv_at hl 6 rfl) ?_
    refine hv_ki I (va_runV (As := [.int (nI D), .int (nI j)]) (rest := []) C.fix (k_gross l hlt G h _ (isD_le (cut_le aa h) hD) bn (Nat.le_refl _) (by omega) hP.2.1 hDd hj (v := nI AA) w3) (cwV 2 C.2.2.2.2.1 gL_refunds_X4_gross rfl rfl rfl (by decide +kernel) ⟨Nat.le_of_ble_eq_true rfl, Nat.le_of_ble_eq_true rfl⟩) (hv_preV C I (isD_0 (isD_le (cut_le aa h) hD)) (r := (RX4, TX4, 6)) rfl) rfl rfl hl.1 rfl (lv_room (Nat.le_of_ble_eq_true rfl)) dL_refunds_44 ⟨Nat.le_of_ble_eq_true rfl, Nat.le_of_ble_eq_true rfl⟩) (fun ru_15 u_15 H locs pu_15 I => ?_)
    obtain ⟨e1, e2⟩ := pu_15; have e1 := e1.symm; subst e1; have e2 := e2.symm; subst e2
    refine lv_if_le (tgt := 87) C.1 C.2.1 dL_refunds_47 (by decide) (fun c47 => ?_) (fun c47 => ?_)
    · have c47 : AA ≤ 0 := (nI_leI (a := AA) (b := 0) (by omega) (by omega)).mp c47
      refine lv_iconst (v := 0) C.1 C.2.1 dL_refunds_87 (by decide) ?_
      refine lv_istore (lv' := [(11, .int 0), (10, .int 1), (9, .int (nI DD)), (8, .int (nI HH)), (0, .ref (ad 0 0)), (1, .int 1), (2, .int (nI D)), (3, .int (nI j)), (4, .ref (aa 0)), (5, .ref (aa 2)), (6, .ref (aa 3)), (7, .ref (aa 4))]) C.1 C.2.1 dL_refunds_88 hl (by decide) rfl (fun ls hl => ?_)
      refine lv_aload_n C.1 C.2.1 dL_refunds_90 rfl (lv_at hl 4 rfl) ?_
      refine lv_iload_n C.1 C.2.1 dL_refunds_91 rfl (lv_at hl 5 rfl) ?_
      refine lv_iload_n C.1 C.2.1 dL_refunds_92 rfl (lv_at hl 6 rfl) ?_
      refine lv_iload_n C.1 C.2.1 dL_refunds_93 rfl (lv_at hl 7 rfl) ?_
      have hA : lvA aa h := LV.A (G := G) ⟨fH, fT, fP, fC, fZ⟩
      refine hv_ki I (vx_runSW (As := [.ref (ad 0 0), .int 1, .int (nI D), .int (nI j)]) (rest := []) C.fix (a_claim l hlt G h _ hD hA hN hDd hj eq1 hq w1 w2 w3 w4 w5 w6) (vx_cwSW 4 C.2.2.2.2.1 gL_refunds_L_asks rfl rfl rfl (by decide +kernel) ⟨Nat.le_of_ble_eq_true rfl, Nat.le_of_ble_eq_true rfl⟩) (hv_preS C I) rfl rfl hl.1 rfl (lv_room (Nat.le_of_ble_eq_true rfl)) dL_refunds_94 ⟨Nat.le_of_ble_eq_true rfl, Nat.le_of_ble_eq_true rfl⟩) (fun ru_16 u_16 H locs pu_16 I => ?_)
      obtain ⟨hkp, hcase⟩ := pu_16
      have fH9 : u_16 (aa 0) = some (.inl (G.2.1 4, 20, .inr (.inl hF))) := (hkp _ (Or.inl rfl)).trans fH
      have fT9 : u_16 (aa 1) = some (.inl (G.2.1 0, 12, .inl tF)) := (hkp _ (Or.inr (Or.inl rfl))).trans fT
      have fP9 : u_16 (aa 2) = some (.inl (G.2.1 0, 13, .inl pF)) := (hkp _ (Or.inr (Or.inr (Or.inl rfl)))).trans fP
      have fC9 : u_16 (aa 3) = some (.inl (G.2.1 0, 3, .inl cF)) := (hkp _ (Or.inr (Or.inr (Or.inr (Or.inl rfl))))).trans fC
      have fZ9 : u_16 (aa 4) = some (.inl (G.2.1 4, 1, .inr (.inl zF))) := (hkp _ (Or.inr (Or.inr (Or.inr (Or.inr rfl))))).trans fZ
      have fH := fH9
      have fT := fT9
      have fP := fP9
      have fC := fC9
      have fZ := fZ9
      rcases hcase with ⟨s1, T, t1, t2, t3, t4, e2, hD⟩ | ⟨s1, e2, hD⟩
      · exfalso; omega
      · have e2 := e2.symm; subst e2
        refine lv_istore (lv' := [(12, .int (-8)), (11, .int 0), (10, .int 1), (9, .int (nI DD)), (8, .int (nI HH)), (0, .ref (ad 0 0)), (1, .int 1), (2, .int (nI D)), (3, .int (nI j)), (4, .ref (aa 0)), (5, .ref (aa 2)), (6, .ref (aa 3)), (7, .ref (aa 4))]) C.1 C.2.1 dL_refunds_97 hl (by decide) rfl (fun ls hl => ?_)
        refine lv_iload C.1 C.2.1 dL_refunds_99 (lv_at hl 1 rfl) ?_
        refine lv_if_ne (tgt := 128) C.1 C.2.1 dL_refunds_101 (by decide) (fun c101 => ?_) (fun c101 => ?_)
        · exact absurd rfl c101
        · refine lv_iload C.1 C.2.1 dL_refunds_104 (lv_at hl 0 rfl) ?_
          refine lv_bipush (v := (-8)) C.1 C.2.1 dL_refunds_106 (by decide) ?_
          refine lv_icmp_ne (tgt := 126) C.1 C.2.1 dL_refunds_108 (by decide) (fun c108 => ?_) (fun c108 => ?_)
          · exact absurd rfl c108
          · refine lv_aload_n C.1 C.2.1 dL_refunds_111 rfl (lv_at hl 5 rfl) ?_
            refine lv_iload_n C.1 C.2.1 dL_refunds_112 rfl (lv_at hl 7 rfl) ?_
            refine lv_iload_n C.1 C.2.1 dL_refunds_113 rfl (lv_at hl 8 rfl) ?_
            refine hv_ki I (va_runV (As := [.int (nI D), .int (nI j)]) (rest := []) C.fix (k_held l hlt G u_16 _ (isD_le (cut_le aa u_16) hD) bn (Nat.le_refl _) (by omega) hP.2.1 hDd hj (v := nI HH) w1) (cwV 2 C.2.2.2.2.1 gL_refunds_X4_held rfl rfl rfl (by decide +kernel) ⟨Nat.le_of_ble_eq_true rfl, Nat.le_of_ble_eq_true rfl⟩) (hv_preV C I (isD_0 (isD_le (cut_le aa u_16) hD)) (r := (RX4, TX4, 6)) rfl) rfl rfl hl.1 rfl (lv_room (Nat.le_of_ble_eq_true rfl)) dL_refunds_114 ⟨Nat.le_of_ble_eq_true rfl, Nat.le_of_ble_eq_true rfl⟩) (fun ru_17 u_17 H locs pu_17 I => ?_)
            obtain ⟨e1, e2⟩ := pu_17; have e1 := e1.symm; subst e1; have e2 := e2.symm; subst e2
            refine lv_iload C.1 C.2.1 dL_refunds_117 (lv_at hl 4 rfl) ?_
            refine lv_icmp_ne (tgt := 126) C.1 C.2.1 dL_refunds_119 (by decide) (fun c119 => ?_) (fun c119 => ?_)
            · exact absurd rfl c119
            · refine lv_iconst (v := 1) C.1 C.2.1 dL_refunds_122 (by decide) ?_
              refine lv_goto (tgt := 127) C.1 C.2.1 dL_refunds_123 (by decide) ?_
              exact hv_zret (v := 1) C hr I rfl (⟨rfl, inv_mk hD hN ⟨fH, fT, fP, fC, fZ⟩⟩) dL_refunds_127 (Nat.le_of_ble_eq_true rfl) (Nat.le_of_ble_eq_true rfl)
    · have c47 : ¬ (AA ≤ 0) := fun z => c47 ((nI_leI (a := AA) (b := 0) (by omega) (by omega)).mpr z)
      refine lv_aload C.1 C.2.1 dL_refunds_50 (lv_at hl 9 rfl) ?_
      refine lv_iconst (v := 0) C.1 C.2.1 dL_refunds_52 (by decide) ?_
      refine hv_ialdN (i := 0) C I fC (by decide) (by decide) dL_refunds_53 ?_
      refine lv_topi (fun z_18 ez_18 => ?_)
      have ez_18 := ez_18.trans (show _ = nI t by exact ec0)
      subst ez_18
      refine lv_aload C.1 C.2.1 dL_refunds_54 (lv_at hl 8 rfl) ?_
      refine lv_iload_n C.1 C.2.1 dL_refunds_56 rfl (lv_at hl 5 rfl) ?_
      refine hv_ialdN (i := D) C I fP (by omega) (by decide) dL_refunds_57 ?_
      refine lv_topi (fun z_19 ez_19 => ?_)
      have ez_19 := ez_19.trans (show _ = nI q by exact eq2)
      subst ez_19
      refine lv_isub C.1 C.2.1 dL_refunds_58 ?_
      refine lv_topi (fun z_20 ez_20 => ?_)
      have ez_20 := ez_20.trans (show _ = nI (t - q) by exact pk_sub (a := t) (b := q) (by omega))
      subst ez_20
      refine lv_iload_n C.1 C.2.1 dL_refunds_59 rfl (lv_at hl 4 rfl) ?_
      refine lv_if_ne (tgt := 68) C.1 C.2.1 dL_refunds_60 (by decide) (fun c60 => ?_) (fun c60 => ?_)
      · refine lv_sipush (v := 1080) C.1 C.2.1 dL_refunds_68 (by decide) ?_
        refine lv_icmp_gt (tgt := 87) C.1 C.2.1 dL_refunds_71 (by decide) (fun c71 => ?_) (fun c71 => ?_)
        · have c71 : 1080 < t - q := (nI_ltI (a := 1080) (b := t - q) (by omega) (by omega)).mp c71
          refine lv_iconst (v := 0) C.1 C.2.1 dL_refunds_87 (by decide) ?_
          refine lv_istore (lv' := [(11, .int 0), (10, .int 1), (9, .int (nI DD)), (8, .int (nI HH)), (0, .ref (ad 0 0)), (1, .int 1), (2, .int (nI D)), (3, .int (nI j)), (4, .ref (aa 0)), (5, .ref (aa 2)), (6, .ref (aa 3)), (7, .ref (aa 4))]) C.1 C.2.1 dL_refunds_88 hl (by decide) rfl (fun ls hl => ?_)
          refine lv_aload_n C.1 C.2.1 dL_refunds_90 rfl (lv_at hl 4 rfl) ?_
          refine lv_iload_n C.1 C.2.1 dL_refunds_91 rfl (lv_at hl 5 rfl) ?_
          refine lv_iload_n C.1 C.2.1 dL_refunds_92 rfl (lv_at hl 6 rfl) ?_
          refine lv_iload_n C.1 C.2.1 dL_refunds_93 rfl (lv_at hl 7 rfl) ?_
          have hA : lvA aa h := LV.A (G := G) ⟨fH, fT, fP, fC, fZ⟩
          refine hv_ki I (vx_runSW (As := [.ref (ad 0 0), .int 1, .int (nI D), .int (nI j)]) (rest := []) C.fix (a_claim l hlt G h _ hD hA hN hDd hj eq1 hq w1 w2 w3 w4 w5 w6) (vx_cwSW 4 C.2.2.2.2.1 gL_refunds_L_asks rfl rfl rfl (by decide +kernel) ⟨Nat.le_of_ble_eq_true rfl, Nat.le_of_ble_eq_true rfl⟩) (hv_preS C I) rfl rfl hl.1 rfl (lv_room (Nat.le_of_ble_eq_true rfl)) dL_refunds_94 ⟨Nat.le_of_ble_eq_true rfl, Nat.le_of_ble_eq_true rfl⟩) (fun ru_21 u_21 H locs pu_21 I => ?_)
          obtain ⟨hkp, hcase⟩ := pu_21
          have fH9 : u_21 (aa 0) = some (.inl (G.2.1 4, 20, .inr (.inl hF))) := (hkp _ (Or.inl rfl)).trans fH
          have fT9 : u_21 (aa 1) = some (.inl (G.2.1 0, 12, .inl tF)) := (hkp _ (Or.inr (Or.inl rfl))).trans fT
          have fP9 : u_21 (aa 2) = some (.inl (G.2.1 0, 13, .inl pF)) := (hkp _ (Or.inr (Or.inr (Or.inl rfl)))).trans fP
          have fC9 : u_21 (aa 3) = some (.inl (G.2.1 0, 3, .inl cF)) := (hkp _ (Or.inr (Or.inr (Or.inr (Or.inl rfl))))).trans fC
          have fZ9 : u_21 (aa 4) = some (.inl (G.2.1 4, 1, .inr (.inl zF))) := (hkp _ (Or.inr (Or.inr (Or.inr (Or.inr rfl))))).trans fZ
          have fH := fH9
          have fT := fT9
          have fP := fP9
          have fC := fC9
          have fZ := fZ9
          rcases hcase with ⟨s1, T, t1, t2, t3, t4, e2, hD⟩ | ⟨s1, e2, hD⟩
          · exfalso; omega
          · have e2 := e2.symm; subst e2
            refine lv_istore (lv' := [(12, .int (-8)), (11, .int 0), (10, .int 1), (9, .int (nI DD)), (8, .int (nI HH)), (0, .ref (ad 0 0)), (1, .int 1), (2, .int (nI D)), (3, .int (nI j)), (4, .ref (aa 0)), (5, .ref (aa 2)), (6, .ref (aa 3)), (7, .ref (aa 4))]) C.1 C.2.1 dL_refunds_97 hl (by decide) rfl (fun ls hl => ?_)
            refine lv_iload C.1 C.2.1 dL_refunds_99 (lv_at hl 1 rfl) ?_
            refine lv_if_ne (tgt := 128) C.1 C.2.1 dL_refunds_101 (by decide) (fun c101 => ?_) (fun c101 => ?_)
            · exact absurd rfl c101
            · refine lv_iload C.1 C.2.1 dL_refunds_104 (lv_at hl 0 rfl) ?_
              refine lv_bipush (v := (-8)) C.1 C.2.1 dL_refunds_106 (by decide) ?_
              refine lv_icmp_ne (tgt := 126) C.1 C.2.1 dL_refunds_108 (by decide) (fun c108 => ?_) (fun c108 => ?_)
              · exact absurd rfl c108
              · refine lv_aload_n C.1 C.2.1 dL_refunds_111 rfl (lv_at hl 5 rfl) ?_
                refine lv_iload_n C.1 C.2.1 dL_refunds_112 rfl (lv_at hl 7 rfl) ?_
                refine lv_iload_n C.1 C.2.1 dL_refunds_113 rfl (lv_at hl 8 rfl) ?_
                refine hv_ki I (va_runV (As := [.int (nI D), .int (nI j)]) (rest := []) C.fix (k_held l hlt G u_21 _ (isD_le (cut_le aa u_21) hD) bn (Nat.le_refl _) (by omega) hP.2.1 hDd hj (v := nI HH) w1) (cwV 2 C.2.2.2.2.1 gL_refunds_X4_held rfl rfl rfl (by decide +kernel) ⟨Nat.le_of_ble_eq_true rfl, Nat.le_of_ble_eq_true rfl⟩) (hv_preV C I (isD_0 (isD_le (cut_le aa u_21) hD)) (r := (RX4, TX4, 6)) rfl) rfl rfl hl.1 rfl (lv_room (Nat.le_of_ble_eq_true rfl)) dL_refunds_114 ⟨Nat.le_of_ble_eq_true rfl, Nat.le_of_ble_eq_true rfl⟩) (fun ru_22 u_22 H locs pu_22 I => ?_)
                obtain ⟨e1, e2⟩ := pu_22; have e1 := e1.symm; subst e1; have e2 := e2.symm; subst e2
                refine lv_iload C.1 C.2.1 dL_refunds_117 (lv_at hl 4 rfl) ?_
                refine lv_icmp_ne (tgt := 126) C.1 C.2.1 dL_refunds_119 (by decide) (fun c119 => ?_) (fun c119 => ?_)
                · exact absurd rfl c119
                · refine lv_iconst (v := 1) C.1 C.2.1 dL_refunds_122 (by decide) ?_
                  refine lv_goto (tgt := 127) C.1 C.2.1 dL_refunds_123 (by decide) ?_
                  exact hv_zret (v := 1) C hr I rfl (⟨rfl, inv_mk hD hN ⟨fH, fT, fP, fC, fZ⟩⟩) dL_refunds_127 (Nat.le_of_ble_eq_true rfl) (Nat.le_of_ble_eq_true rfl)
        · have c71 : ¬ (1080 < t - q) := fun z => c71 ((nI_ltI (a := 1080) (b := t - q) (by omega) (by omega)).mpr z)
          refine lv_iload_n C.1 C.2.1 dL_refunds_74 rfl (lv_at hl 4 rfl) ?_
          refine lv_if_eq (tgt := 83) C.1 C.2.1 dL_refunds_75 (by decide) (fun c75 => ?_) (fun c75 => ?_)
          · exact absurd c75 (by decide)
          · refine lv_iload C.1 C.2.1 dL_refunds_78 (lv_at hl 0 rfl) ?_
            refine lv_if_eq (tgt := 87) C.1 C.2.1 dL_refunds_80 (by decide) (fun c80 => ?_) (fun c80 => ?_)
            · exact absurd c80 (by decide)
            · refine lv_iconst (v := 1) C.1 C.2.1 dL_refunds_83 (by decide) ?_
              refine lv_goto (tgt := 88) C.1 C.2.1 dL_refunds_84 (by decide) ?_
              refine lv_istore (lv' := [(11, .int 1), (10, .int 1), (9, .int (nI DD)), (8, .int (nI HH)), (0, .ref (ad 0 0)), (1, .int 1), (2, .int (nI D)), (3, .int (nI j)), (4, .ref (aa 0)), (5, .ref (aa 2)), (6, .ref (aa 3)), (7, .ref (aa 4))]) C.1 C.2.1 dL_refunds_88 hl (by decide) rfl (fun ls hl => ?_)
              refine lv_aload_n C.1 C.2.1 dL_refunds_90 rfl (lv_at hl 4 rfl) ?_
              refine lv_iload_n C.1 C.2.1 dL_refunds_91 rfl (lv_at hl 5 rfl) ?_
              refine lv_iload_n C.1 C.2.1 dL_refunds_92 rfl (lv_at hl 6 rfl) ?_
              refine lv_iload_n C.1 C.2.1 dL_refunds_93 rfl (lv_at hl 7 rfl) ?_
              have hA : lvA aa h := LV.A (G := G) ⟨fH, fT, fP, fC, fZ⟩
              refine hv_ki I (vx_runSW (As := [.ref (ad 0 0), .int 1, .int (nI D), .int (nI j)]) (rest := []) C.fix (a_claim l hlt G h _ hD hA hN hDd hj eq1 hq w1 w2 w3 w4 w5 w6) (vx_cwSW 4 C.2.2.2.2.1 gL_refunds_L_asks rfl rfl rfl (by decide +kernel) ⟨Nat.le_of_ble_eq_true rfl, Nat.le_of_ble_eq_true rfl⟩) (hv_preS C I) rfl rfl hl.1 rfl (lv_room (Nat.le_of_ble_eq_true rfl)) dL_refunds_94 ⟨Nat.le_of_ble_eq_true rfl, Nat.le_of_ble_eq_true rfl⟩) (fun ru_23 u_23 H locs pu_23 I => ?_)
              obtain ⟨hkp, hcase⟩ := pu_23
              have fH9 : u_23 (aa 0) = some (.inl (G.2.1 4, 20, .inr (.inl hF))) := (hkp _ (Or.inl rfl)).trans fH
              have fT9 : u_23 (aa 1) = some (.inl (G.2.1 0, 12, .inl tF)) := (hkp _ (Or.inr (Or.inl rfl))).trans fT
              have fP9 : u_23 (aa 2) = some (.inl (G.2.1 0, 13, .inl pF)) := (hkp _ (Or.inr (Or.inr (Or.inl rfl)))).trans fP
              have fC9 : u_23 (aa 3) = some (.inl (G.2.1 0, 3, .inl cF)) := (hkp _ (Or.inr (Or.inr (Or.inr (Or.inl rfl))))).trans fC
              have fZ9 : u_23 (aa 4) = some (.inl (G.2.1 4, 1, .inr (.inl zF))) := (hkp _ (Or.inr (Or.inr (Or.inr (Or.inr rfl))))).trans fZ
              have fH := fH9
              have fT := fT9
              have fP := fP9
              have fC := fC9
              have fZ := fZ9
              rcases hcase with ⟨s1, T, t1, t2, t3, t4, e2, hD⟩ | ⟨s1, e2, hD⟩
              · have e2 := e2.symm; subst e2
                have hg : ¬ ar 12 (20 * D + j) = 0 := fun z => by
                  rw [w3] at z
                  have := (nI_eq (a := AA) (b := 0) (by omega) (by decide)).mp z
                  omega
                have w2x : tall (po (20 * D + j)) (-1) = nI DD := by
                  rw [if_neg hg] at w2
                  exact w2
                obtain ⟨ar1, har1⟩ : ∃ z, z = va_up ar 13 (upd (ar 13) (20 * D + j) (nI (HH - (HH - T)))) := ⟨_, rfl⟩
                rw [← har1] at hD
                have hN1 : Nm n d t ar1 po (rf + (nI (HH - T)).toInt64) hF tF pF cF (vp_updL zF 0 (rf + (nI (HH - T)).toInt64)) kd ld sh fo si g la := by rw [har1]; exact hN.held hDd (by omega) hg w3 w4 w2x (by omega) (by omega) (by omega) updL_eq rfl
                have w1b : (if ar1 12 (20 * D + j) = 0 then 0 else ar1 13 (20 * D + j)) = nI (HH - (HH - T)) := by rw [har1]; exact (if_neg hg).trans upd_eq
                have w2b : (if ar1 12 (20 * D + j) = 0 then 0 else tall (po (20 * D + j)) (-1)) = nI DD := by rw [har1]; exact w2
                have w3b : ar1 12 (20 * D + j) = nI AA := by rw [har1]; exact w3
                have eq1b : ar1 11 D = nI q := by rw [har1]; exact eq1
                have hgb : ¬ ar1 12 (20 * D + j) = 0 := by rw [har1]; exact hg
                refine lv_istore (lv' := [(12, .int (nI (HH - T))), (11, .int 1), (10, .int 1), (9, .int (nI DD)), (8, .int (nI HH)), (0, .ref (ad 0 0)), (1, .int 1), (2, .int (nI D)), (3, .int (nI j)), (4, .ref (aa 0)), (5, .ref (aa 2)), (6, .ref (aa 3)), (7, .ref (aa 4))]) C.1 C.2.1 dL_refunds_97 hl (by decide) rfl (fun ls hl => ?_)
                refine lv_iload C.1 C.2.1 dL_refunds_99 (lv_at hl 1 rfl) ?_
                refine lv_if_ne (tgt := 128) C.1 C.2.1 dL_refunds_101 (by decide) (fun c101 => ?_) (fun c101 => ?_)
                · refine lv_aload C.1 C.2.1 dL_refunds_128 (lv_at hl 12 rfl) ?_
                  refine lv_iconst (v := 0) C.1 C.2.1 dL_refunds_130 (by decide) ?_
                  refine lv_dup2_11 C.1 C.2.1 dL_refunds_131 rfl rfl ?_
                  refine hv_laldN (i := 0) C I fZ (by decide) (by decide) dL_refunds_132 ?_
                  refine lv_topl (fun z_24 ez_24 => ?_)
                  have ez_24 := ez_24.trans (show _ = rf by exact ez0)
                  have ez_24 := ez_24.symm
                  subst ez_24
                  refine lv_iload C.1 C.2.1 dL_refunds_133 (lv_at hl 0 rfl) ?_
                  refine lv_i2l C.1 C.2.1 dL_refunds_135 rfl ?_
                  refine lv_ladd C.1 C.2.1 dL_refunds_136 ?_
                  refine hv_lastN (i := 0) C I fZ (by decide) (by decide) dL_refunds_137 (fun H locs I => ?_)
                  obtain ⟨h_25, eh_25⟩ : ∃ z, z = hv_up u_23 (aa 4) (.inl (G.2.1 4, 1, .inr (.inl (vp_updL zF 0 (rf + ((nI (HH - T)).toInt64)))))) := ⟨_, rfl⟩
                  have I : hv_I G h s h_25 H locs := by rw [eh_25]; exact I
                  have hD : isD G (cut aa h_25) ad n d d (nI t) (rf + (nI (HH - T)).toInt64) ar1 fm po := by rw [eh_25, cut_up (Or.inr (Or.inr (Or.inr (Or.inr rfl))))]; exact hD
                  have fH9 : h_25 (aa 0) = some (.inl (G.2.1 4, 20, .inr (.inl hF))) := by rw [eh_25, hv_up_ne (hv_neLen fH fZ (by decide))]; exact fH
                  have fT9 : h_25 (aa 1) = some (.inl (G.2.1 0, 12, .inl tF)) := by rw [eh_25, hv_up_ne (hv_neLen fT fZ (by decide))]; exact fT
                  have fP9 : h_25 (aa 2) = some (.inl (G.2.1 0, 13, .inl pF)) := by rw [eh_25, hv_up_ne (hv_neLen fP fZ (by decide))]; exact fP
                  have fC9 : h_25 (aa 3) = some (.inl (G.2.1 0, 3, .inl cF)) := by rw [eh_25, hv_up_ne (hv_neLen fC fZ (by decide))]; exact fC
                  have fZ9 : h_25 (aa 4) = some (.inl (G.2.1 4, 1, .inr (.inl (vp_updL zF 0 (rf + ((nI (HH - T)).toInt64)))))) := by rw [eh_25]; exact hv_up_eq
                  have fH := fH9
                  have fT := fT9
                  have fP := fP9
                  have fC := fC9
                  have fZ := fZ9
                  refine lv_iload C.1 C.2.1 dL_refunds_138 (lv_at hl 0 rfl) ?_
                  refine lv_if_lt (tgt := 186) C.1 C.2.1 dL_refunds_140 (by decide) (fun c140 => ?_) (fun c140 => ?_)
                  · have c140 : HH - T < 0 := (nI_ltI (a := HH - T) (b := 0) (by omega) (by omega)).mp c140
                    exfalso
                    omega
                  · have c140 : ¬ (HH - T < 0) := fun z => c140 ((nI_ltI (a := HH - T) (b := 0) (by omega) (by omega)).mpr z)
                    refine lv_aload_n C.1 C.2.1 dL_refunds_143 rfl (lv_at hl 5 rfl) ?_
                    refine lv_iload_n C.1 C.2.1 dL_refunds_144 rfl (lv_at hl 7 rfl) ?_
                    refine lv_iload_n C.1 C.2.1 dL_refunds_145 rfl (lv_at hl 8 rfl) ?_
                    refine hv_ki I (va_runV (As := [.int (nI D), .int (nI j)]) (rest := []) C.fix (k_held l hlt G h_25 _ (isD_le (cut_le aa h_25) hD) bn (Nat.le_refl _) (by omega) hP.2.1 hDd hj (v := nI (HH - (HH - T))) w1b) (cwV 2 C.2.2.2.2.1 gL_refunds_X4_held rfl rfl rfl (by decide +kernel) ⟨Nat.le_of_ble_eq_true rfl, Nat.le_of_ble_eq_true rfl⟩) (hv_preV C I (isD_0 (isD_le (cut_le aa h_25) hD)) (r := (RX4, TX4, 6)) rfl) rfl rfl hl.1 rfl (lv_room (Nat.le_of_ble_eq_true rfl)) dL_refunds_146 ⟨Nat.le_of_ble_eq_true rfl, Nat.le_of_ble_eq_true rfl⟩) (fun ru_26 u_26 H locs pu_26 I => ?_)
                    obtain ⟨e1, e2⟩ := pu_26; have e1 := e1.symm; subst e1; have e2 := e2.symm; subst e2
                    refine lv_iload C.1 C.2.1 dL_refunds_149 (lv_at hl 4 rfl) ?_
                    refine lv_iload C.1 C.2.1 dL_refunds_151 (lv_at hl 0 rfl) ?_
                    refine lv_isub C.1 C.2.1 dL_refunds_153 ?_
                    refine lv_topi (fun z_27 ez_27 => ?_)
                    have ez_27 := ez_27.trans (show _ = nI (HH - (HH - T)) by exact pk_sub (a := HH) (b := (HH - T)) (by omega))
                    subst ez_27
                    refine lv_icmp_ne (tgt := 186) C.1 C.2.1 dL_refunds_154 (by decide) (fun c154 => ?_) (fun c154 => ?_)
                    · have c154 : ¬ (HH - (HH - T) = HH - (HH - T)) := fun z => c154 ((nI_eq (a := HH - (HH - T)) (b := HH - (HH - T)) (by omega) (by omega)).mpr z)
                      exfalso
                      omega
                    · have c154 : HH - (HH - T) = HH - (HH - T) := (nI_eq (a := HH - (HH - T)) (b := HH - (HH - T)) (by omega) (by omega)).mp c154
                      refine lv_aload_n C.1 C.2.1 dL_refunds_157 rfl (lv_at hl 5 rfl) ?_
                      refine lv_iload_n C.1 C.2.1 dL_refunds_158 rfl (lv_at hl 7 rfl) ?_
                      refine lv_iload_n C.1 C.2.1 dL_refunds_159 rfl (lv_at hl 8 rfl) ?_
                      refine hv_ki I (va_runV (As := [.int (nI D), .int (nI j)]) (rest := []) C.fix (k_held l hlt G h_25 _ (isD_le (cut_le aa h_25) hD) bn (Nat.le_refl _) (by omega) hP.2.1 hDd hj (v := nI (HH - (HH - T))) w1b) (cwV 2 C.2.2.2.2.1 gL_refunds_X4_held rfl rfl rfl (by decide +kernel) ⟨Nat.le_of_ble_eq_true rfl, Nat.le_of_ble_eq_true rfl⟩) (hv_preV C I (isD_0 (isD_le (cut_le aa h_25) hD)) (r := (RX4, TX4, 6)) rfl) rfl rfl hl.1 rfl (lv_room (Nat.le_of_ble_eq_true rfl)) dL_refunds_160 ⟨Nat.le_of_ble_eq_true rfl, Nat.le_of_ble_eq_true rfl⟩) (fun ru_28 u_28 H locs pu_28 I => ?_)
                      obtain ⟨e1, e2⟩ := pu_28; have e1 := e1.symm; subst e1; have e2 := e2.symm; subst e2
                      refine lv_iload C.1 C.2.1 dL_refunds_163 (lv_at hl 3 rfl) ?_
                      refine lv_icmp_lt (tgt := 186) C.1 C.2.1 dL_refunds_165 (by decide) (fun c165 => ?_) (fun c165 => ?_)
                      · have c165 : HH - (HH - T) < DD := (nI_ltI (a := HH - (HH - T)) (b := DD) (by omega) (by omega)).mp c165
                        exfalso
                        omega
                      · have c165 : ¬ (HH - (HH - T) < DD) := fun z => c165 ((nI_ltI (a := HH - (HH - T)) (b := DD) (by omega) (by omega)).mpr z)
                        refine lv_iload_n C.1 C.2.1 dL_refunds_168 rfl (lv_at hl 6 rfl) ?_
                        refine lv_if_eq (tgt := 182) C.1 C.2.1 dL_refunds_169 (by decide) (fun c169 => ?_) (fun c169 => ?_)
                        · exact absurd c169 (by decide)
                        · refine lv_iload C.1 C.2.1 dL_refunds_172 (lv_at hl 0 rfl) ?_
                          refine lv_iload C.1 C.2.1 dL_refunds_174 (lv_at hl 4 rfl) ?_
                          refine lv_iload C.1 C.2.1 dL_refunds_176 (lv_at hl 3 rfl) ?_
                          refine lv_isub C.1 C.2.1 dL_refunds_178 ?_
                          refine lv_topi (fun z_29 ez_29 => ?_)
                          have ez_29 := ez_29.trans (show _ = nI (HH - DD) by exact pk_sub (a := HH) (b := DD) (by omega))
                          subst ez_29
                          refine lv_icmp_ne (tgt := 186) C.1 C.2.1 dL_refunds_179 (by decide) (fun c179 => ?_) (fun c179 => ?_)
                          · have c179 : ¬ (HH - T = HH - DD) := fun z => c179 ((nI_eq (a := HH - T) (b := HH - DD) (by omega) (by omega)).mpr z)
                            exfalso
                            omega
                          · have c179 : HH - T = HH - DD := (nI_eq (a := HH - T) (b := HH - DD) (by omega) (by omega)).mp c179
                            refine lv_iconst (v := 1) C.1 C.2.1 dL_refunds_182 (by decide) ?_
                            refine lv_goto (tgt := 187) C.1 C.2.1 dL_refunds_183 (by decide) ?_
                            refine lv_istore (lv' := [(13, .int 1), (12, .int (nI (HH - T))), (11, .int 1), (10, .int 1), (9, .int (nI DD)), (8, .int (nI HH)), (0, .ref (ad 0 0)), (1, .int 1), (2, .int (nI D)), (3, .int (nI j)), (4, .ref (aa 0)), (5, .ref (aa 2)), (6, .ref (aa 3)), (7, .ref (aa 4))]) C.1 C.2.1 dL_refunds_187 hl (by decide) rfl (fun ls hl => ?_)
                            refine lv_iload_n C.1 C.2.1 dL_refunds_189 rfl (lv_at hl 7 rfl) ?_
                            refine lv_if_ne (tgt := 215) C.1 C.2.1 dL_refunds_190 (by decide) (fun c190 => ?_) (fun c190 => ?_)
                            · refine lv_iconst (v := 0) C.1 C.2.1 dL_refunds_215 (by decide) ?_
                              refine lv_istore (lv' := [(14, .int 0), (13, .int 1), (12, .int (nI (HH - T))), (11, .int 1), (10, .int 1), (9, .int (nI DD)), (8, .int (nI HH)), (0, .ref (ad 0 0)), (1, .int 1), (2, .int (nI D)), (3, .int (nI j)), (4, .ref (aa 0)), (5, .ref (aa 2)), (6, .ref (aa 3)), (7, .ref (aa 4))]) C.1 C.2.1 dL_refunds_216 hl (by decide) rfl (fun ls hl => ?_)
                              refine lv_iload C.1 C.2.1 dL_refunds_218 (lv_at hl 1 rfl) ?_
                              refine lv_if_eq (tgt := 252) C.1 C.2.1 dL_refunds_220 (by decide) (fun c220 => ?_) (fun c220 => ?_)
                              · exact absurd c220 (by decide)
                              · refine lv_iload C.1 C.2.1 dL_refunds_223 (lv_at hl 0 rfl) ?_
                                refine lv_if_eq (tgt := 238) C.1 C.2.1 dL_refunds_225 (by decide) (fun c225 => ?_) (fun c225 => ?_)
                                · refine lv_aload_n C.1 C.2.1 dL_refunds_238 rfl (lv_at hl 7 rfl) ?_
                                  refine lv_iload_n C.1 C.2.1 dL_refunds_239 rfl (lv_at hl 8 rfl) ?_
                                  refine lv_iload_n C.1 C.2.1 dL_refunds_240 rfl (lv_at hl 9 rfl) ?_
                                  refine lv_iload_n C.1 C.2.1 dL_refunds_241 rfl (lv_at hl 10 rfl) ?_
                                  have hA : lvA aa h_25 := LV.A (G := G) ⟨fH, fT, fP, fC, fZ⟩
                                  refine hv_ki I (vx_runSW (As := [.ref (ad 0 0), .int 1, .int (nI D), .int (nI j)]) (rest := []) C.fix (a_claim l hlt G h_25 _ hD hA hN1 hDd hj eq1b hq w1b w2b w3b w4 (by omega) (by omega)) (vx_cwSW 4 C.2.2.2.2.1 gL_refunds_L_asks rfl rfl rfl (by decide +kernel) ⟨Nat.le_of_ble_eq_true rfl, Nat.le_of_ble_eq_true rfl⟩) (hv_preS C I) rfl rfl hl.1 rfl (lv_room (Nat.le_of_ble_eq_true rfl)) dL_refunds_242 ⟨Nat.le_of_ble_eq_true rfl, Nat.le_of_ble_eq_true rfl⟩) (fun ru_30 u_30 H locs pu_30 I => ?_)
                                  obtain ⟨hkp, hcase⟩ := pu_30
                                  have fH9 : u_30 (aa 0) = some (.inl (G.2.1 4, 20, .inr (.inl hF))) := (hkp _ (Or.inl rfl)).trans fH
                                  have fT9 : u_30 (aa 1) = some (.inl (G.2.1 0, 12, .inl tF)) := (hkp _ (Or.inr (Or.inl rfl))).trans fT
                                  have fP9 : u_30 (aa 2) = some (.inl (G.2.1 0, 13, .inl pF)) := (hkp _ (Or.inr (Or.inr (Or.inl rfl)))).trans fP
                                  have fC9 : u_30 (aa 3) = some (.inl (G.2.1 0, 3, .inl cF)) := (hkp _ (Or.inr (Or.inr (Or.inr (Or.inl rfl))))).trans fC
                                  have fZ9 : u_30 (aa 4) = some (.inl (G.2.1 4, 1, .inr (.inl (vp_updL zF 0 (rf + ((nI (HH - T)).toInt64)))))) := (hkp _ (Or.inr (Or.inr (Or.inr (Or.inr rfl))))).trans fZ
                                  have fH := fH9
                                  have fT := fT9
                                  have fP := fP9
                                  have fC := fC9
                                  have fZ := fZ9
                                  rcases hcase with ⟨s2, T2, u1, u2, u3, u4, e2, hD⟩ | ⟨s2, e2, hD⟩
                                  · have e2 := e2.symm; subst e2
                                    have eT : T2 = T := (nI_eq (by omega) (by omega)).mp (u4.symm.trans t4)
                                    have hN2 := hN1.held hDd (by omega) hgb w3b w4 w2x (by omega) (show DD ≤ (HH - (HH - T)) - ((HH - (HH - T)) - T2) by omega) (by omega) (zF2 := vp_updL zF 0 (rf + (nI (HH - T)).toInt64)) (rf2 := (rf + (nI (HH - T)).toInt64) + (nI ((HH - (HH - T)) - T2)).toInt64) (by rw [updL_eq, show (HH - (HH - T)) - T2 = 0 by omega]; exact (add_l0 _).symm) rfl
                                    refine lv_if_ne (tgt := 252) C.1 C.2.1 dL_refunds_245 (by decide) (fun c245 => ?_) (fun c245 => ?_)
                                    · have c245 : ¬ ((HH - (HH - T)) - T2 = 0) := fun z => c245 ((nI_eq (a := (HH - (HH - T)) - T2) (b := 0) (by omega) (by omega)).mpr z)
                                      exfalso
                                      omega
                                    · have c245 : (HH - (HH - T)) - T2 = 0 := (nI_eq (a := (HH - (HH - T)) - T2) (b := 0) (by omega) (by omega)).mp c245
                                      refine lv_iconst (v := 1) C.1 C.2.1 dL_refunds_248 (by decide) ?_
                                      refine lv_goto (tgt := 253) C.1 C.2.1 dL_refunds_249 (by decide) ?_
                                      exact hv_zret (v := 1) C hr I rfl (⟨rfl, inv_mk hD hN2 ⟨fH, fT, fP, fC, fZ⟩⟩) dL_refunds_253 (Nat.le_of_ble_eq_true rfl) (Nat.le_of_ble_eq_true rfl)
                                  · exfalso; omega
                                · exact absurd rfl c225
                            · exact absurd c190 (by decide)
                · exact absurd c101 (by decide)
              · exfalso; omega
      · exact absurd c60 (by decide)
