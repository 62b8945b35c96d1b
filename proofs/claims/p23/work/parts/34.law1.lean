/-! ===== the law changes the desk: shares, holders, days ===== -/
theorem hf_m1 {t : Nat} (ht : t < 2 ^ 30) : hf (nI t) (-1) = 0 := by
  rw [← nI_m1, hf_N ht (by decide)]
  exact if_neg (fun z => by have := of_decide_eq_true z; omega)
set_option maxHeartbeats 4000000 in
set_option maxRecDepth 100000 in
theorem c_L_shares (l : Launch) (G : hv_G) (h : hv) (sz : Nat)  (hlt : l.stackTraces = false) {aa : Nat → Nat} {ad : Nat → Nat → Nat} {n d t : Nat} {rf : Int64} {ar : AR} {fm : Nat → Int32} {po : PO} {hF : Nat → Int64} {tF pF cF : Nat → Int32} {zF : Nat → Int64} {kd ld sh fo si g la : Nat → Nat} (hD : isD G (cut aa h) ad n d d (nI t) rf ar fm po) (hL : LV G aa h hF tF pF cF zF) (hN : Nm n d t ar po rf hF tF pF cF zF kd ld sh fo si g la) {k v : Nat} (hk : k < n) (hv : v ≤ 1000000) : hv_Mi l yL_shares wsL_shares 14 500 10 60 G h sz [.ref (ad 0 0), .int (nI k), .int (nI v), .ref (aa 0), .ref (aa 3)] (fun r u => r = 1 ∧ Inv G aa (ad 0 0) u) := by
  obtain ⟨fH, fT, fP, fC, fZ⟩ := id hL
  obtain ⟨⟨bn, bd, bt⟩, ⟨ec0, ec1, ec2, ez0⟩, hK, hS, hR, hZ, hQ, hP⟩ := id hN
  have hu := sumN_upd sh k v n
  rw [if_pos hk, if_pos hk] at hu
  have hKk := hK k hk
  obtain ⟨_, _, q1, q2, q3, q4⟩ := id hKk
  refine hv_enter (y := yL_shares) (avs := [.ref (ad 0 0), .int (nI k), .int (nI v), .ref (aa 0), .ref (aa 3)]) (maxL := 8) (Qf := fun sz => va_Qi (fun r u => r = 1 ∧ Inv G aa (ad 0 0) u) (hv_Bq G h sz) (hv_A h sz)) (by decide) rfl rfl (Nat.le_of_ble_eq_true rfl) ?_
  intro p e s m below meth c hr hnm C I ls hl
  have hl : lv_has ls 8 [(0, .ref (ad 0 0)), (1, .int (nI k)), (2, .int (nI v)), (3, .ref (aa 0)), (4, .ref (aa 3))] := hl
  refine lv_iconst (v := 0) C.1 C.2.1 dL_shares_0 (by decide) ?_
  refine lv_istore (lv' := [(5, .int 0), (0, .ref (ad 0 0)), (1, .int (nI k)), (2, .int (nI v)), (3, .ref (aa 0)), (4, .ref (aa 3))]) C.1 C.2.1 dL_shares_1 hl (by decide) rfl (fun ls hl => ?_)
  refine lv_iconst (v := 0) C.1 C.2.1 dL_shares_3 (by decide) ?_
  refine lv_istore (lv' := [(6, .int 0), (5, .int 0), (0, .ref (ad 0 0)), (1, .int (nI k)), (2, .int (nI v)), (3, .ref (aa 0)), (4, .ref (aa 3))]) C.1 C.2.1 dL_shares_4 hl (by decide) rfl (fun ls hl => ?_)
  have loop : ∀ (k9 i : Nat), i ≤ n → n + 1 ≤ i + k9 → ∀ (H : Heap) (locs : List Loc), hv_I G h s h H locs → ∀ ls : Array Slot, lv_has ls 8 [(6, .int (nI i)), (5, .int (nI (sumN (va_up sh k v) i))), (0, .ref (ad 0 0)), (1, .int (nI k)), (2, .int (nI v)), (3, .ref (aa 0)), (4, .ref (aa 3))] → W p l e (hv_rm 14 10 60 500) s m (([.ref (ad 0 0), .int (nI k), .int (nI v), .ref (aa 0), .ref (aa 3)] : List Value).toArray) below meth c H locs 0 0 (MQ below (va_Qi (fun r u => r = 1 ∧ Inv G aa (ad 0 0) u) (hv_Bq G h s.heap.size) (hv_A h s.heap.size)) (([.ref (ad 0 0), .int (nI k), .int (nI v), .ref (aa 0), .ref (aa 3)] : List Value).toArray) s 10 60 (hv_A h s.heap.size)) (F0 m 6 ls []) := by
    intro k9
    induction k9 with
    | zero => intro i hi hin; exact absurd hin (by omega)
    | succ k9 loop_ih =>
      intro i hi hin H locs I ls hl
      refine lv_iload C.1 C.2.1 dL_shares_6 (lv_at hl 0 rfl) ?_
      refine lv_aload C.1 C.2.1 dL_shares_8 (lv_at hl 6 rfl) ?_
      refine lv_iconst (v := 1) C.1 C.2.1 dL_shares_10 (by decide) ?_
      refine hv_ialdN (i := 1) C I fC (by decide) (by decide) dL_shares_11 ?_
      refine lv_topi (fun z_1 ez_1 => ?_)
      have ez_1 := ez_1.trans (show _ = nI n by exact ec1)
      subst ez_1
      refine lv_icmp_ge (tgt := 46) C.1 C.2.1 dL_shares_12 (by decide) (fun c12 => ?_) (fun c12 => ?_)
      · have c12 : n ≤ i := (nI_leI (a := n) (b := i) (by omega) (by omega)).mp c12
        have ein : i = n := by omega
        rw [ein] at hl
        refine lv_aload_n C.1 C.2.1 dL_shares_46 rfl (lv_at hl 5 rfl) ?_
        refine lv_iload_n C.1 C.2.1 dL_shares_47 rfl (lv_at hl 3 rfl) ?_
        refine hv_laldN (i := k) C I fH (by omega) (by decide) dL_shares_48 ?_
        refine lv_iconst (v := 5) C.1 C.2.1 dL_shares_49 (by decide) ?_
        refine lv_bipush (v := 20) C.1 C.2.1 dL_shares_50 (by decide) ?_
        refine hv_ki I (va_runS (As := [.long (hF k), .int 5, .int 20]) (rest := []) C.fix (c_L_part l G h _ (hF k) 5 20 (v := nI (sh k)) hKk.2.1.2.2.1) (va_cwS 3 C.2.2.2.2.1 gL_shares_L_part rfl rfl rfl (by decide +kernel) ⟨Nat.le_of_ble_eq_true rfl, Nat.le_of_ble_eq_true rfl⟩) (hv_preS C I) rfl rfl hl.1 rfl (lv_room (Nat.le_of_ble_eq_true rfl)) dL_shares_52 ⟨Nat.le_of_ble_eq_true rfl, Nat.le_of_ble_eq_true rfl⟩) (fun ru_2 u_2 H locs pu_2 I => ?_)
        obtain ⟨e1, e2⟩ := pu_2; have e1 := e1.symm; subst e1; have e2 := e2.symm; subst e2
        refine lv_istore (lv' := [(6, .int (nI (sh k))), (5, .int (nI (sumN (va_up sh k v) n))), (0, .ref (ad 0 0)), (1, .int (nI k)), (2, .int (nI v)), (3, .ref (aa 0)), (4, .ref (aa 3))]) C.1 C.2.1 dL_shares_55 hl (by decide) rfl (fun ls hl => ?_)
        refine lv_aload_n C.1 C.2.1 dL_shares_57 rfl (lv_at hl 2 rfl) ?_
        refine lv_iconst (v := 2) C.1 C.2.1 dL_shares_58 (by decide) ?_
        refine lv_iload_n C.1 C.2.1 dL_shares_59 rfl (lv_at hl 3 rfl) ?_
        refine lv_iload_n C.1 C.2.1 dL_shares_60 rfl (lv_at hl 4 rfl) ?_
        have hA : lvA aa h := LV.A (G := G) ⟨fH, fT, fP, fC, fZ⟩
        refine hv_ki I (vx_runSW (As := [.ref (ad 0 0), .int 2, .int (nI k), .int (nI v)]) (rest := []) C.fix (a_setShares l hlt G h _ hD hA hN hk hv) (vx_cwSW 4 C.2.2.2.2.1 gL_shares_L_asks rfl rfl rfl (by decide +kernel) ⟨Nat.le_of_ble_eq_true rfl, Nat.le_of_ble_eq_true rfl⟩) (hv_preS C I) rfl rfl hl.1 rfl (lv_room (Nat.le_of_ble_eq_true rfl)) dL_shares_61 ⟨Nat.le_of_ble_eq_true rfl, Nat.le_of_ble_eq_true rfl⟩) (fun ru_3 u_3 H locs pu_3 I => ?_)
        obtain ⟨hkp, hcase⟩ := pu_3
        have fH9 : u_3 (aa 0) = some (.inl (G.2.1 4, 20, .inr (.inl hF))) := (hkp _ (Or.inl rfl)).trans fH
        have fT9 : u_3 (aa 1) = some (.inl (G.2.1 0, 12, .inl tF)) := (hkp _ (Or.inr (Or.inl rfl))).trans fT
        have fP9 : u_3 (aa 2) = some (.inl (G.2.1 0, 13, .inl pF)) := (hkp _ (Or.inr (Or.inr (Or.inl rfl)))).trans fP
        have fC9 : u_3 (aa 3) = some (.inl (G.2.1 0, 3, .inl cF)) := (hkp _ (Or.inr (Or.inr (Or.inr (Or.inl rfl))))).trans fC
        have fZ9 : u_3 (aa 4) = some (.inl (G.2.1 4, 1, .inr (.inl zF))) := (hkp _ (Or.inr (Or.inr (Or.inr (Or.inr rfl))))).trans fZ
        have fH := fH9
        have fT := fT9
        have fP := fP9
        have fC := fC9
        have fZ := fZ9
        rcases hcase with ⟨s1, e2, hD⟩ | ⟨s1, e2, hD⟩
        · have e2 := e2.symm; subst e2
          refine lv_istore (lv' := [(7, .int (nI (sh k))), (6, .int (nI (sh k))), (5, .int (nI (sumN (va_up sh k v) n))), (0, .ref (ad 0 0)), (1, .int (nI k)), (2, .int (nI v)), (3, .ref (aa 0)), (4, .ref (aa 3))]) C.1 C.2.1 dL_shares_64 hl (by decide) rfl (fun ls hl => ?_)
          refine lv_aload_n C.1 C.2.1 dL_shares_66 rfl (lv_at hl 6 rfl) ?_
          refine lv_iload_n C.1 C.2.1 dL_shares_67 rfl (lv_at hl 4 rfl) ?_
          refine lv_iload C.1 C.2.1 dL_shares_68 (lv_at hl 2 rfl) ?_
          refine lv_ldc C.1 C.2.1 C.2.2.2.1 (C.ts (w := .constant RL 90 (1000000)) (by decide +kernel)) dL_shares_70 ?_
          refine lv_icmp_le (tgt := 81) C.1 C.2.1 dL_shares_72 (by decide) (fun c72 => ?_) (fun c72 => ?_)
          · have c72 : sumN (va_up sh k v) n ≤ 1000000 := (nI_leI (a := sumN (va_up sh k v) n) (b := 1000000) (by omega) (by omega)).mp c72
            refine lv_aload_n C.1 C.2.1 dL_shares_81 rfl (lv_at hl 6 rfl) ?_
            refine lv_iload_n C.1 C.2.1 dL_shares_82 rfl (lv_at hl 4 rfl) ?_
            refine hv_laldN (i := k) C I fH (by omega) (by decide) dL_shares_83 ?_
            refine lv_iconst (v := 5) C.1 C.2.1 dL_shares_84 (by decide) ?_
            refine lv_bipush (v := 20) C.1 C.2.1 dL_shares_85 (by decide) ?_
            refine lv_iload_n C.1 C.2.1 dL_shares_87 rfl (lv_at hl 5 rfl) ?_
            refine hv_kl I (va_runS (As := [.long (hF k), .int 5, .int 20, .int (nI v)]) (rest := [.int (nI k), .ref (aa 0)]) C.fix (c_L_with l G u_3 _ (hF k) 5 20 (nI v)) (va_cwS 4 C.2.2.2.2.1 gL_shares_L_with rfl rfl rfl (by decide +kernel) ⟨Nat.le_of_ble_eq_true rfl, Nat.le_of_ble_eq_true rfl⟩) (hv_preS C I) rfl rfl hl.1 rfl (lv_room (Nat.le_of_ble_eq_true rfl)) dL_shares_88 ⟨Nat.le_of_ble_eq_true rfl, Nat.le_of_ble_eq_true rfl⟩) (fun ru_4 u_4 H locs pu_4 I => ?_)
            obtain ⟨e1, e2⟩ := pu_4; have e1 := e1.symm; subst e1; have e2 := e2.symm; subst e2
            refine hv_lastN (i := k) C I fH (by omega) (by decide) dL_shares_91 (fun H locs I => ?_)
            obtain ⟨h_5, eh_5⟩ : ∃ z, z = hv_up u_3 (aa 0) (.inl (G.2.1 4, 20, .inr (.inl (vp_updL hF k (wtF (hF k) 5 20 (nI v)))))) := ⟨_, rfl⟩
            have I : hv_I G h s h_5 H locs := by rw [eh_5]; exact I
            have hD : isD G (cut aa h_5) ad n d d (nI t) rf (va_up ar 6 (upd (ar 6) k (nI v))) fm po := by rw [eh_5, cut_up (Or.inl rfl)]; exact hD
            have fH9 : h_5 (aa 0) = some (.inl (G.2.1 4, 20, .inr (.inl (vp_updL hF k (wtF (hF k) 5 20 (nI v)))))) := by rw [eh_5]; exact hv_up_eq
            have fT9 : h_5 (aa 1) = some (.inl (G.2.1 0, 12, .inl tF)) := by rw [eh_5, hv_up_ne (hv_neLen fT fH (by decide))]; exact fT
            have fP9 : h_5 (aa 2) = some (.inl (G.2.1 0, 13, .inl pF)) := by rw [eh_5, hv_up_ne (hv_neLen fP fH (by decide))]; exact fP
            have fC9 : h_5 (aa 3) = some (.inl (G.2.1 0, 3, .inl cF)) := by rw [eh_5, hv_up_ne (hv_neLen fC fH (by decide))]; exact fC
            have fZ9 : h_5 (aa 4) = some (.inl (G.2.1 4, 1, .inr (.inl zF))) := by rw [eh_5, hv_up_ne (hv_neLen fZ fH (by decide))]; exact fZ
            have fH := fH9
            have fT := fT9
            have fP := fP9
            have fC := fC9
            have fZ := fZ9
            refine lv_iload C.1 C.2.1 dL_shares_92 (lv_at hl 0 rfl) ?_
            refine lv_iload C.1 C.2.1 dL_shares_94 (lv_at hl 2 rfl) ?_
            refine lv_ldc C.1 C.2.1 C.2.2.2.1 (C.ts (w := .constant RL 90 (1000000)) (by decide +kernel)) dL_shares_96 ?_
            refine lv_icmp_le (tgt := 106) C.1 C.2.1 dL_shares_98 (by decide) (fun c98 => ?_) (fun c98 => ?_)
            · have c98 : sumN (va_up sh k v) n ≤ 1000000 := (nI_leI (a := sumN (va_up sh k v) n) (b := 1000000) (by omega) (by omega)).mp c98
              refine lv_iload C.1 C.2.1 dL_shares_106 (lv_at hl 1 rfl) ?_
              refine lv_icmp_ne (tgt := 115) C.1 C.2.1 dL_shares_108 (by decide) (fun c108 => ?_) (fun c108 => ?_)
              · exact absurd rfl c108
              · refine lv_iconst (v := 1) C.1 C.2.1 dL_shares_111 (by decide) ?_
                refine lv_goto (tgt := 116) C.1 C.2.1 dL_shares_112 (by decide) ?_
                exact hv_zret (v := 1) C hr I rfl (⟨rfl, inv_mk hD (hN.shares hk hv s1) ⟨fH, fT, fP, fC, fZ⟩⟩) dL_shares_116 (Nat.le_of_ble_eq_true rfl) (Nat.le_of_ble_eq_true rfl)
            · have c98 : ¬ (sumN (va_up sh k v) n ≤ 1000000) := fun z => c98 ((nI_leI (a := sumN (va_up sh k v) n) (b := 1000000) (by omega) (by omega)).mpr z)
              exfalso
              omega
          · have c72 : ¬ (sumN (va_up sh k v) n ≤ 1000000) := fun z => c72 ((nI_leI (a := sumN (va_up sh k v) n) (b := 1000000) (by omega) (by omega)).mpr z)
            exfalso
            omega
        · have e2 := e2.symm; subst e2
          refine lv_istore (lv' := [(7, .int (-8)), (6, .int (nI (sh k))), (5, .int (nI (sumN (va_up sh k v) n))), (0, .ref (ad 0 0)), (1, .int (nI k)), (2, .int (nI v)), (3, .ref (aa 0)), (4, .ref (aa 3))]) C.1 C.2.1 dL_shares_64 hl (by decide) rfl (fun ls hl => ?_)
          refine lv_aload_n C.1 C.2.1 dL_shares_66 rfl (lv_at hl 6 rfl) ?_
          refine lv_iload_n C.1 C.2.1 dL_shares_67 rfl (lv_at hl 4 rfl) ?_
          refine lv_iload C.1 C.2.1 dL_shares_68 (lv_at hl 2 rfl) ?_
          refine lv_ldc C.1 C.2.1 C.2.2.2.1 (C.ts (w := .constant RL 90 (1000000)) (by decide +kernel)) dL_shares_70 ?_
          refine lv_icmp_le (tgt := 81) C.1 C.2.1 dL_shares_72 (by decide) (fun c72 => ?_) (fun c72 => ?_)
          · have c72 : sumN (va_up sh k v) n ≤ 1000000 := (nI_leI (a := sumN (va_up sh k v) n) (b := 1000000) (by omega) (by omega)).mp c72
            exfalso
            omega
          · have c72 : ¬ (sumN (va_up sh k v) n ≤ 1000000) := fun z => c72 ((nI_leI (a := sumN (va_up sh k v) n) (b := 1000000) (by omega) (by omega)).mpr z)
            refine lv_aload_n C.1 C.2.1 dL_shares_75 rfl (lv_at hl 6 rfl) ?_
            refine lv_iload_n C.1 C.2.1 dL_shares_76 rfl (lv_at hl 4 rfl) ?_
            refine hv_laldN (i := k) C I fH (by omega) (by decide) dL_shares_77 ?_
            refine lv_goto (tgt := 91) C.1 C.2.1 dL_shares_78 (by decide) ?_
            refine hv_lastN (i := k) C I fH (by omega) (by decide) dL_shares_91 (fun H locs I => ?_)
            obtain ⟨h_6, eh_6⟩ : ∃ z, z = hv_up u_3 (aa 0) (.inl (G.2.1 4, 20, .inr (.inl (vp_updL hF k (hF k))))) := ⟨_, rfl⟩
            have I : hv_I G h s h_6 H locs := by rw [eh_6]; exact I
            have hD : isD G (cut aa h_6) ad n d d (nI t) rf ar fm po := by rw [eh_6, cut_up (Or.inl rfl)]; exact hD
            have fH9 : h_6 (aa 0) = some (.inl (G.2.1 4, 20, .inr (.inl (vp_updL hF k (hF k))))) := by rw [eh_6]; exact hv_up_eq
            have fT9 : h_6 (aa 1) = some (.inl (G.2.1 0, 12, .inl tF)) := by rw [eh_6, hv_up_ne (hv_neLen fT fH (by decide))]; exact fT
            have fP9 : h_6 (aa 2) = some (.inl (G.2.1 0, 13, .inl pF)) := by rw [eh_6, hv_up_ne (hv_neLen fP fH (by decide))]; exact fP
            have fC9 : h_6 (aa 3) = some (.inl (G.2.1 0, 3, .inl cF)) := by rw [eh_6, hv_up_ne (hv_neLen fC fH (by decide))]; exact fC
            have fZ9 : h_6 (aa 4) = some (.inl (G.2.1 4, 1, .inr (.inl zF))) := by rw [eh_6, hv_up_ne (hv_neLen fZ fH (by decide))]; exact fZ
            have fH := fH9
            have fT := fT9
            have fP := fP9
            have fC := fC9
            have fZ := fZ9
            refine lv_iload C.1 C.2.1 dL_shares_92 (lv_at hl 0 rfl) ?_
            refine lv_iload C.1 C.2.1 dL_shares_94 (lv_at hl 2 rfl) ?_
            refine lv_ldc C.1 C.2.1 C.2.2.2.1 (C.ts (w := .constant RL 90 (1000000)) (by decide +kernel)) dL_shares_96 ?_
            refine lv_icmp_le (tgt := 106) C.1 C.2.1 dL_shares_98 (by decide) (fun c98 => ?_) (fun c98 => ?_)
            · have c98 : sumN (va_up sh k v) n ≤ 1000000 := (nI_leI (a := sumN (va_up sh k v) n) (b := 1000000) (by omega) (by omega)).mp c98
              exfalso
              omega
            · have c98 : ¬ (sumN (va_up sh k v) n ≤ 1000000) := fun z => c98 ((nI_leI (a := sumN (va_up sh k v) n) (b := 1000000) (by omega) (by omega)).mpr z)
              refine lv_bipush (v := (-8)) C.1 C.2.1 dL_shares_101 (by decide) ?_
              refine lv_goto (tgt := 108) C.1 C.2.1 dL_shares_103 (by decide) ?_
              refine lv_icmp_ne (tgt := 115) C.1 C.2.1 dL_shares_108 (by decide) (fun c108 => ?_) (fun c108 => ?_)
              · exact absurd rfl c108
              · refine lv_iconst (v := 1) C.1 C.2.1 dL_shares_111 (by decide) ?_
                refine lv_goto (tgt := 116) C.1 C.2.1 dL_shares_112 (by decide) ?_
                exact hv_zret (v := 1) C hr I rfl (⟨rfl, inv_mk hD hN ⟨(by have z := fH; rw [updL_same] at z; exact z), fT, fP, fC, fZ⟩⟩) dL_shares_116 (Nat.le_of_ble_eq_true rfl) (Nat.le_of_ble_eq_true rfl)
      · have c12 : ¬ (n ≤ i) := fun z => c12 ((nI_leI (a := n) (b := i) (by omega) (by omega)).mpr z)
        have hi12 : i < n := by omega
        have hKi := hK i hi12
        refine lv_iload C.1 C.2.1 dL_shares_15 (lv_at hl 1 rfl) ?_
        refine lv_iload C.1 C.2.1 dL_shares_17 (lv_at hl 0 rfl) ?_
        refine lv_iload_n C.1 C.2.1 dL_shares_19 rfl (lv_at hl 3 rfl) ?_
        refine lv_icmp_ne (tgt := 27) C.1 C.2.1 dL_shares_20 (by decide) (fun c20 => ?_) (fun c20 => ?_)
        · have c20 : ¬ (i = k) := fun z => c20 ((nI_eq (a := i) (b := k) (by omega) (by omega)).mpr z)
          refine lv_aload_n C.1 C.2.1 dL_shares_27 rfl (lv_at hl 5 rfl) ?_
          refine lv_iload C.1 C.2.1 dL_shares_28 (lv_at hl 0 rfl) ?_
          refine hv_laldN (i := i) C I fH (by omega) (by decide) dL_shares_30 ?_
          refine lv_iconst (v := 5) C.1 C.2.1 dL_shares_31 (by decide) ?_
          refine lv_bipush (v := 20) C.1 C.2.1 dL_shares_32 (by decide) ?_
          refine hv_ki I (va_runS (As := [.long (hF i), .int 5, .int 20]) (rest := [.int (nI (sumN (va_up sh k v) i))]) C.fix (c_L_part l G h _ (hF i) 5 20 (v := nI (sh i)) hKi.2.1.2.2.1) (va_cwS 3 C.2.2.2.2.1 gL_shares_L_part rfl rfl rfl (by decide +kernel) ⟨Nat.le_of_ble_eq_true rfl, Nat.le_of_ble_eq_true rfl⟩) (hv_preS C I) rfl rfl hl.1 rfl (lv_room (Nat.le_of_ble_eq_true rfl)) dL_shares_34 ⟨Nat.le_of_ble_eq_true rfl, Nat.le_of_ble_eq_true rfl⟩) (fun ru_7 u_7 H locs pu_7 I => ?_)
          obtain ⟨e1, e2⟩ := pu_7; have e1 := e1.symm; subst e1; have e2 := e2.symm; subst e2
          refine lv_iadd C.1 C.2.1 dL_shares_37 ?_
          refine lv_topi (fun z_8 ez_8 => ?_)
          have ez_8 := ez_8.trans (show _ = nI ((sumN (va_up sh k v) i) + (sh i)) by exact nI_add (sumN (va_up sh k v) i) (sh i))
          subst ez_8
          refine lv_topi (fun z_9 ez_9 => ?_)
          have ez_9 := ez_9.trans (show _ = nI (sumN (va_up sh k v) (i + 1)) by exact congrArg nI (show sumN (va_up sh k v) i + (sh i) = sumN (va_up sh k v) i + va_up sh k v i by rw [va_up_ne _ _ c20]))
          subst ez_9
          refine lv_istore (lv' := [(5, .int (nI (sumN (va_up sh k v) (i + 1)))), (6, .int (nI i)), (0, .ref (ad 0 0)), (1, .int (nI k)), (2, .int (nI v)), (3, .ref (aa 0)), (4, .ref (aa 3))]) C.1 C.2.1 dL_shares_38 hl (by decide) rfl (fun ls hl => ?_)
          refine lv_iinc (v := nI (i + 1)) (lv' := [(6, .int (nI (i + 1))), (5, .int (nI (sumN (va_up sh k v) (i + 1)))), (0, .ref (ad 0 0)), (1, .int (nI k)), (2, .int (nI v)), (3, .ref (aa 0)), (4, .ref (aa 3))]) C.1 C.2.1 dL_shares_40 hl (k := 1) rfl (nI_1 i) (by decide) rfl (fun ls hl => ?_)
          refine lv_goto (tgt := 6) C.1 C.2.1 dL_shares_43 (by decide) ?_
          refine W.widen (k := 0) (n := 0) (by omega) (by omega) ?_
          exact loop_ih (i + 1) (by omega) (by omega)  _ _ I ls (lv_sub hl [0, 1, 2, 3, 4, 5, 6] rfl)
        · have c20 : i = k := (nI_eq (a := i) (b := k) (by omega) (by omega)).mp c20
          refine lv_iload_n C.1 C.2.1 dL_shares_23 rfl (lv_at hl 4 rfl) ?_
          refine lv_goto (tgt := 37) C.1 C.2.1 dL_shares_24 (by decide) ?_
          refine lv_iadd C.1 C.2.1 dL_shares_37 ?_
          refine lv_topi (fun z_10 ez_10 => ?_)
          have ez_10 := ez_10.trans (show _ = nI ((sumN (va_up sh k v) i) + v) by exact nI_add (sumN (va_up sh k v) i) v)
          subst ez_10
          refine lv_topi (fun z_11 ez_11 => ?_)
          have ez_11 := ez_11.trans (show _ = nI (sumN (va_up sh k v) (i + 1)) by exact congrArg nI (show sumN (va_up sh k v) i + v = sumN (va_up sh k v) i + va_up sh k v i by rw [c20, va_up_self]))
          subst ez_11
          refine lv_istore (lv' := [(5, .int (nI (sumN (va_up sh k v) (i + 1)))), (6, .int (nI i)), (0, .ref (ad 0 0)), (1, .int (nI k)), (2, .int (nI v)), (3, .ref (aa 0)), (4, .ref (aa 3))]) C.1 C.2.1 dL_shares_38 hl (by decide) rfl (fun ls hl => ?_)
          refine lv_iinc (v := nI (i + 1)) (lv' := [(6, .int (nI (i + 1))), (5, .int (nI (sumN (va_up sh k v) (i + 1)))), (0, .ref (ad 0 0)), (1, .int (nI k)), (2, .int (nI v)), (3, .ref (aa 0)), (4, .ref (aa 3))]) C.1 C.2.1 dL_shares_40 hl (k := 1) rfl (nI_1 i) (by decide) rfl (fun ls hl => ?_)
          refine lv_goto (tgt := 6) C.1 C.2.1 dL_shares_43 (by decide) ?_
          refine W.widen (k := 0) (n := 0) (by omega) (by omega) ?_
          exact loop_ih (i + 1) (by omega) (by omega)  _ _ I ls (lv_sub hl [0, 1, 2, 3, 4, 5, 6] rfl)
  refine W.widen (k := 0) (n := 0) (by omega) (by omega) ?_
  exact loop (n + 1) 0 (Nat.zero_le _) (by omega)  _ _ I ls (lv_sub hl [0, 1, 2, 3, 4, 5, 6] rfl)

set_option maxHeartbeats 4000000 in
set_option maxRecDepth 100000 in
theorem c_L_adds (l : Launch) (G : hv_G) (h : hv) (sz : Nat)  (hlt : l.stackTraces = false) {aa : Nat → Nat} {ad : Nat → Nat → Nat} {n d t : Nat} {rf : Int64} {ar : AR} {fm : Nat → Int32} {po : PO} {hF : Nat → Int64} {tF pF cF : Nat → Int32} {zF : Nat → Int64} {kd ld sh fo si g la : Nat → Nat} (hD : isD G (cut aa h) ad n d d (nI t) rf ar fm po) (hL : LV G aa h hF tF pF cF zF) (hN : Nm n d t ar po rf hF tF pF cF zF kd ld sh fo si g la) {x y : Nat} (hx : x < 2 ^ 30) (hy : y < 2 ^ 30) : hv_Mi l yL_adds wsL_adds 11 420 20 140 G h sz [.ref (ad 0 0), .int (nI x), .int (nI y), .ref (aa 0), .ref (aa 3)] (fun r u => r = 1 ∧ Inv G aa (ad 0 0) u) := by
  obtain ⟨fH, fT, fP, fC, fZ⟩ := id hL
  obtain ⟨⟨bn, bd, bt⟩, ⟨ec0, ec1, ec2, ez0⟩, hK, hS, hR, hZ, hQ, hP⟩ := id hN
  refine hv_enter (y := yL_adds) (avs := [.ref (ad 0 0), .int (nI x), .int (nI y), .ref (aa 0), .ref (aa 3)]) (maxL := 7) (Qf := fun sz => va_Qi (fun r u => r = 1 ∧ Inv G aa (ad 0 0) u) (hv_Bq G h sz) (hv_A h sz)) (by decide) rfl rfl (Nat.le_of_ble_eq_true rfl) ?_
  intro p e s m below meth c hr hnm C I ls hl
  have hl : lv_has ls 7 [(0, .ref (ad 0 0)), (1, .int (nI x)), (2, .int (nI y)), (3, .ref (aa 0)), (4, .ref (aa 3))] := hl
  refine lv_aload C.1 C.2.1 dL_adds_0 (lv_at hl 4 rfl) ?_
  refine lv_iconst (v := 1) C.1 C.2.1 dL_adds_2 (by decide) ?_
  refine hv_ialdN (i := 1) C I fC (by decide) (by decide) dL_adds_3 ?_
  refine lv_topi (fun z_1 ez_1 => ?_)
  have ez_1 := ez_1.trans (show _ = nI n by exact ec1)
  subst ez_1
  refine lv_bipush (v := 20) C.1 C.2.1 dL_adds_4 (by decide) ?_
  refine lv_icmp_ne (tgt := 11) C.1 C.2.1 dL_adds_6 (by decide) (fun c6 => ?_) (fun c6 => ?_)
  · have c6 : ¬ (n = 20) := fun z => c6 ((nI_eq (a := n) (b := 20) (by omega) (by omega)).mpr z)
    have hn20 : n < 20 := by omega
    have hz9 := hZ n (Nat.le_refl n) hn20
    have hq9 : ∀ k, k < 20 → ar 9 (20 * n + k) = 0 := fun k hk => by
      obtain ⟨q, _, a, b⟩ := hQ n k hn20 hk
      rw [a, b (Or.inl (Nat.le_refl n))]
      rfl
    refine lv_iload_n C.1 C.2.1 dL_adds_11 rfl (lv_at hl 1 rfl) ?_
    refine lv_iconst (v := 5) C.1 C.2.1 dL_adds_12 (by decide) ?_
    refine lv_irem C.1 C.2.1 dL_adds_13 (by decide) ?_
    refine lv_topi (fun z_2 ez_2 => ?_)
    have ez_2 := ez_2.trans (show _ = nI (x % 5) by exact pk_rem (a := x) (d := 5) (by omega) (by decide) (by decide))
    subst ez_2
    refine lv_if_ne (tgt := 21) C.1 C.2.1 dL_adds_14 (by decide) (fun c14 => ?_) (fun c14 => ?_)
    · have c14 : ¬ (x % 5 = 0) := fun z => c14 ((nI_eq (a := x % 5) (b := 0) (by omega) (by omega)).mpr z)
      refine lv_iload_n C.1 C.2.1 dL_adds_21 rfl (lv_at hl 1 rfl) ?_
      refine lv_iconst (v := 5) C.1 C.2.1 dL_adds_22 (by decide) ?_
      refine lv_irem C.1 C.2.1 dL_adds_23 (by decide) ?_
      refine lv_topi (fun z_3 ez_3 => ?_)
      have ez_3 := ez_3.trans (show _ = nI (x % 5) by exact pk_rem (a := x) (d := 5) (by omega) (by decide) (by decide))
      subst ez_3
      refine lv_iconst (v := 3) C.1 C.2.1 dL_adds_24 (by decide) ?_
      refine lv_icmp_ge (tgt := 32) C.1 C.2.1 dL_adds_25 (by decide) (fun c25 => ?_) (fun c25 => ?_)
      · have c25 : 3 ≤ x % 5 := (nI_leI (a := 3) (b := x % 5) (by omega) (by omega)).mp c25
        refine lv_iconst (v := 0) C.1 C.2.1 dL_adds_32 (by decide) ?_
        refine lv_istore (lv' := [(5, .int 0), (0, .ref (ad 0 0)), (1, .int (nI x)), (2, .int (nI y)), (3, .ref (aa 0)), (4, .ref (aa 3))]) C.1 C.2.1 dL_adds_33 hl (by decide) rfl (fun ls hl => ?_)
        refine lv_iload C.1 C.2.1 dL_adds_35 (lv_at hl 0 rfl) ?_
        refine lv_iconst (v := 2) C.1 C.2.1 dL_adds_37 (by decide) ?_
        refine lv_icmp_ne (tgt := 45) C.1 C.2.1 dL_adds_38 (by decide) (fun c38 => ?_) (fun c38 => ?_)
        · refine lv_iload_n C.1 C.2.1 dL_adds_45 rfl (lv_at hl 3 rfl) ?_
          refine lv_bipush (v := 6) C.1 C.2.1 dL_adds_46 (by decide) ?_
          refine lv_irem C.1 C.2.1 dL_adds_48 (by decide) ?_
          refine lv_topi (fun z_4 ez_4 => ?_)
          have ez_4 := ez_4.trans (show _ = nI (y % 6) by exact pk_rem (a := y) (d := 6) (by omega) (by decide) (by decide))
          subst ez_4
          refine lv_topi (fun z_5 ez_5 => ?_)
          have ez_5 := ez_5.trans (show _ = nI (y % 6 + 1) - 1 by exact (nI_pred _).symm)
          subst ez_5
          refine lv_istore (lv' := [(6, .int (nI (y % 6 + 1) - 1)), (5, .int 0), (0, .ref (ad 0 0)), (1, .int (nI x)), (2, .int (nI y)), (3, .ref (aa 0)), (4, .ref (aa 3))]) C.1 C.2.1 dL_adds_49 hl (by decide) rfl (fun ls hl => ?_)
          refine lv_aload_n C.1 C.2.1 dL_adds_51 rfl (lv_at hl 5 rfl) ?_
          refine lv_aload C.1 C.2.1 dL_adds_52 (lv_at hl 6 rfl) ?_
          refine lv_iconst (v := 1) C.1 C.2.1 dL_adds_54 (by decide) ?_
          refine hv_ialdN (i := 1) C I fC (by decide) (by decide) dL_adds_55 ?_
          refine lv_topi (fun z_6 ez_6 => ?_)
          have ez_6 := ez_6.trans (show _ = nI n by exact ec1)
          subst ez_6
          refine lv_iload C.1 C.2.1 dL_adds_56 (lv_at hl 1 rfl) ?_
          refine lv_i2l C.1 C.2.1 dL_adds_58 rfl ?_
          refine lv_iload C.1 C.2.1 dL_adds_59 (lv_at hl 0 rfl) ?_
          refine lv_iconst (v := 1) C.1 C.2.1 dL_adds_61 (by decide) ?_
          refine lv_iadd C.1 C.2.1 dL_adds_62 ?_
          refine lv_topi (fun z_7 ez_7 => ?_)
          have ez_7 := ez_7.trans (show _ = nI (y % 6 + 1) by simp)
          subst ez_7
          refine lv_i2l C.1 C.2.1 dL_adds_63 rfl ?_
          refine lv_iconst (v := 2) C.1 C.2.1 dL_adds_64 (by decide) ?_
          refine lv_lshl C.1 C.2.1 dL_adds_65 rfl ?_
          refine lv_lor C.1 C.2.1 dL_adds_66 ?_
          refine hv_lastN (i := n) C I fH (by omega) (by decide) dL_adds_67 (fun H locs I => ?_)
          obtain ⟨h_8, eh_8⟩ : ∃ z, z = hv_up h (aa 0) (.inl (G.2.1 4, 20, .inr (.inl (vp_updL hF n (((0 : Int32).toInt64) ||| (((nI (y % 6 + 1)).toInt64) <<< ((2 : Int32).toInt64 &&& 63))))))) := ⟨_, rfl⟩
          have I : hv_I G h s h_8 H locs := by rw [eh_8]; exact I
          have hD : isD G (cut aa h_8) ad n d d (nI t) rf ar fm po := by rw [eh_8, cut_up (Or.inl rfl)]; exact hD
          have fH9 : h_8 (aa 0) = some (.inl (G.2.1 4, 20, .inr (.inl (vp_updL hF n (((0 : Int32).toInt64) ||| (((nI (y % 6 + 1)).toInt64) <<< ((2 : Int32).toInt64 &&& 63))))))) := by rw [eh_8]; exact hv_up_eq
          have fT9 : h_8 (aa 1) = some (.inl (G.2.1 0, 12, .inl tF)) := by rw [eh_8, hv_up_ne (hv_neLen fT fH (by decide))]; exact fT
          have fP9 : h_8 (aa 2) = some (.inl (G.2.1 0, 13, .inl pF)) := by rw [eh_8, hv_up_ne (hv_neLen fP fH (by decide))]; exact fP
          have fC9 : h_8 (aa 3) = some (.inl (G.2.1 0, 3, .inl cF)) := by rw [eh_8, hv_up_ne (hv_neLen fC fH (by decide))]; exact fC
          have fZ9 : h_8 (aa 4) = some (.inl (G.2.1 4, 1, .inr (.inl zF))) := by rw [eh_8, hv_up_ne (hv_neLen fZ fH (by decide))]; exact fZ
          have fH := fH9
          have fT := fT9
          have fP := fP9
          have fC := fC9
          have fZ := fZ9
          refine lv_aload C.1 C.2.1 dL_adds_68 (lv_at hl 6 rfl) ?_
          refine lv_iconst (v := 1) C.1 C.2.1 dL_adds_70 (by decide) ?_
          refine lv_dup2_11 C.1 C.2.1 dL_adds_71 rfl rfl ?_
          refine hv_ialdN (i := 1) C I fC (by decide) (by decide) dL_adds_72 ?_
          refine lv_topi (fun z_9 ez_9 => ?_)
          have ez_9 := ez_9.trans (show _ = nI n by exact ec1)
          subst ez_9
          refine lv_iconst (v := 1) C.1 C.2.1 dL_adds_73 (by decide) ?_
          refine lv_iadd C.1 C.2.1 dL_adds_74 ?_
          refine lv_topi (fun z_10 ez_10 => ?_)
          have ez_10 := ez_10.trans (show _ = nI (n + 1) by exact nI_add n 1)
          subst ez_10
          refine hv_iastN (i := 1) C I fC (by decide) (by decide) dL_adds_75 (fun H locs I => ?_)
          obtain ⟨h_11, eh_11⟩ : ∃ z, z = hv_up h_8 (aa 3) (.inl (G.2.1 0, 3, .inl (upd cF 1 (nI (n + 1))))) := ⟨_, rfl⟩
          have I : hv_I G h s h_11 H locs := by rw [eh_11]; exact I
          have hD : isD G (cut aa h_11) ad n d d (nI t) rf ar fm po := by rw [eh_11, cut_up (Or.inr (Or.inr (Or.inr (Or.inl rfl))))]; exact hD
          have fH9 : h_11 (aa 0) = some (.inl (G.2.1 4, 20, .inr (.inl (vp_updL hF n (((0 : Int32).toInt64) ||| (((nI (y % 6 + 1)).toInt64) <<< ((2 : Int32).toInt64 &&& 63))))))) := by rw [eh_11, hv_up_ne (hv_neLen fH fC (by decide))]; exact fH
          have fT9 : h_11 (aa 1) = some (.inl (G.2.1 0, 12, .inl tF)) := by rw [eh_11, hv_up_ne (hv_neLen fT fC (by decide))]; exact fT
          have fP9 : h_11 (aa 2) = some (.inl (G.2.1 0, 13, .inl pF)) := by rw [eh_11, hv_up_ne (hv_neLen fP fC (by decide))]; exact fP
          have fC9 : h_11 (aa 3) = some (.inl (G.2.1 0, 3, .inl (upd cF 1 (nI (n + 1))))) := by rw [eh_11]; exact hv_up_eq
          have fZ9 : h_11 (aa 4) = some (.inl (G.2.1 4, 1, .inr (.inl zF))) := by rw [eh_11, hv_up_ne (hv_neLen fZ fC (by decide))]; exact fZ
          have fH := fH9
          have fT := fT9
          have fP := fP9
          have fC := fC9
          have fZ := fZ9
          refine lv_aload_n C.1 C.2.1 dL_adds_76 rfl (lv_at hl 2 rfl) ?_
          refine lv_iload C.1 C.2.1 dL_adds_77 (lv_at hl 1 rfl) ?_
          refine lv_iload C.1 C.2.1 dL_adds_79 (lv_at hl 0 rfl) ?_
          have hA : lvA aa h_11 := LV.A (G := G) ⟨fH, fT, fP, fC, fZ⟩
          refine hv_ski I (cut_le aa h_11) (va_runV (As := [.int 0, .int (nI (y % 6 + 1) - 1)]) (rest := []) C.fix (k_addHolder l hlt G (cut aa h_11) _ hD hn20 ⟨hz9.1, hz9.2.1, hz9.2.2, hq9⟩ (K := 0) (L := y % 6 + 1) (Or.inr ⟨by decide, by omega, by omega⟩)) (cwV 2 C.2.2.2.2.1 gL_adds_X4_addHolder rfl rfl rfl (by decide +kernel) ⟨Nat.le_of_ble_eq_true rfl, Nat.le_of_ble_eq_true rfl⟩) (hv_preV C (I.sub (cut_le aa h_11)) (isD_0 hD) (r := (RX4, TX4, 6)) rfl) rfl rfl hl.1 rfl (lv_room (Nat.le_of_ble_eq_true rfl)) dL_adds_81 ⟨Nat.le_of_ble_eq_true rfl, Nat.le_of_ble_eq_true rfl⟩) (fun ru_12 u_12 Ju_12 H locs pu_12 hfr I => ?_)
          obtain ⟨hle, hkp⟩ := cut_aft hA hfr
          have fH9 : Ju_12 (aa 0) = some (.inl (G.2.1 4, 20, .inr (.inl (vp_updL hF n (((0 : Int32).toInt64) ||| (((nI (y % 6 + 1)).toInt64) <<< ((2 : Int32).toInt64 &&& 63))))))) := (hkp _ (Or.inl rfl)).trans fH
          have fT9 : Ju_12 (aa 1) = some (.inl (G.2.1 0, 12, .inl tF)) := (hkp _ (Or.inr (Or.inl rfl))).trans fT
          have fP9 : Ju_12 (aa 2) = some (.inl (G.2.1 0, 13, .inl pF)) := (hkp _ (Or.inr (Or.inr (Or.inl rfl)))).trans fP
          have fC9 : Ju_12 (aa 3) = some (.inl (G.2.1 0, 3, .inl (upd cF 1 (nI (n + 1))))) := (hkp _ (Or.inr (Or.inr (Or.inr (Or.inl rfl))))).trans fC
          have fZ9 : Ju_12 (aa 4) = some (.inl (G.2.1 4, 1, .inr (.inl zF))) := (hkp _ (Or.inr (Or.inr (Or.inr (Or.inr rfl))))).trans fZ
          have fH := fH9
          have fT := fT9
          have fP := fP9
          have fC := fC9
          have fZ := fZ9
          obtain ⟨e2, ad2, e3, hD2⟩ := pu_12; have e2 := e2.symm; subst e2
          have hD : isD G (cut aa Ju_12) ad2 (n + 1) d d (nI t) rf (va_up (va_up ar 4 (upd (ar 4) n (nI 0))) 5 (upd (ar 5) n (nI (y % 6 + 1) - 1))) fm po := isD_le hle hD2
          rw [← e3] at hl
          refine lv_aload C.1 C.2.1 dL_adds_84 (lv_at hl 6 rfl) ?_
          refine lv_iconst (v := 1) C.1 C.2.1 dL_adds_86 (by decide) ?_
          refine hv_ialdN (i := 1) C I fC (by decide) (by decide) dL_adds_87 ?_
          refine lv_topi (fun z_13 ez_13 => ?_)
          have ez_13 := ez_13.trans (show _ = nI (n + 1) by exact upd_eq)
          subst ez_13
          refine lv_iconst (v := 1) C.1 C.2.1 dL_adds_88 (by decide) ?_
          refine lv_isub C.1 C.2.1 dL_adds_89 ?_
          refine lv_topi (fun z_14 ez_14 => ?_)
          have ez_14 := ez_14.trans (show _ = nI ((n + 1) - 1) by exact pk_sub (a := (n + 1)) (b := 1) (by omega))
          subst ez_14
          refine lv_topi (fun z_15 ez_15 => ?_)
          have ez_15 := ez_15.trans (show _ = nI n by exact congrArg nI (by omega))
          subst ez_15
          refine lv_icmp_ne (tgt := 123) C.1 C.2.1 dL_adds_90 (by decide) (fun c90 => ?_) (fun c90 => ?_)
          · exact absurd rfl c90
          · refine lv_aload_n C.1 C.2.1 dL_adds_93 rfl (lv_at hl 2 rfl) ?_
            refine lv_aload C.1 C.2.1 dL_adds_94 (lv_at hl 6 rfl) ?_
            refine lv_iconst (v := 1) C.1 C.2.1 dL_adds_96 (by decide) ?_
            refine hv_ialdN (i := 1) C I fC (by decide) (by decide) dL_adds_97 ?_
            refine lv_topi (fun z_16 ez_16 => ?_)
            have ez_16 := ez_16.trans (show _ = nI (n + 1) by exact upd_eq)
            subst ez_16
            refine lv_iconst (v := 1) C.1 C.2.1 dL_adds_98 (by decide) ?_
            refine lv_isub C.1 C.2.1 dL_adds_99 ?_
            refine lv_topi (fun z_17 ez_17 => ?_)
            have ez_17 := ez_17.trans (show _ = nI ((n + 1) - 1) by exact pk_sub (a := (n + 1)) (b := 1) (by omega))
            subst ez_17
            refine lv_topi (fun z_18 ez_18 => ?_)
            have ez_18 := ez_18.trans (show _ = nI n by exact congrArg nI (by omega))
            subst ez_18
            refine hv_ki I (va_runV (As := [.int (nI n)]) (rest := []) C.fix (k_shares l hlt G Ju_12 _ (isD_le (cut_le aa Ju_12) hD) (by omega) (Nat.lt_succ_self n) (v := 0) hz9.1) (cwV 1 C.2.2.2.2.1 gL_adds_X4_shares rfl rfl rfl (by decide +kernel) ⟨Nat.le_of_ble_eq_true rfl, Nat.le_of_ble_eq_true rfl⟩) (hv_preV C I (isD_0 (isD_le (cut_le aa Ju_12) hD)) (r := (RX4, TX4, 6)) rfl) rfl rfl hl.1 rfl (lv_room (Nat.le_of_ble_eq_true rfl)) dL_adds_100 ⟨Nat.le_of_ble_eq_true rfl, Nat.le_of_ble_eq_true rfl⟩) (fun ru_19 u_19 H locs pu_19 I => ?_)
            obtain ⟨e1, e2⟩ := pu_19; have e1 := e1.symm; subst e1; have e2 := e2.symm; subst e2
            refine lv_if_ne (tgt := 123) C.1 C.2.1 dL_adds_103 (by decide) (fun c103 => ?_) (fun c103 => ?_)
            · exact absurd rfl c103
            · refine lv_aload_n C.1 C.2.1 dL_adds_106 rfl (lv_at hl 2 rfl) ?_
              refine lv_aload C.1 C.2.1 dL_adds_107 (lv_at hl 6 rfl) ?_
              refine lv_iconst (v := 1) C.1 C.2.1 dL_adds_109 (by decide) ?_
              refine hv_ialdN (i := 1) C I fC (by decide) (by decide) dL_adds_110 ?_
              refine lv_topi (fun z_20 ez_20 => ?_)
              have ez_20 := ez_20.trans (show _ = nI (n + 1) by exact upd_eq)
              subst ez_20
              refine lv_iconst (v := 1) C.1 C.2.1 dL_adds_111 (by decide) ?_
              refine lv_isub C.1 C.2.1 dL_adds_112 ?_
              refine lv_topi (fun z_21 ez_21 => ?_)
              have ez_21 := ez_21.trans (show _ = nI ((n + 1) - 1) by exact pk_sub (a := (n + 1)) (b := 1) (by omega))
              subst ez_21
              refine lv_topi (fun z_22 ez_22 => ?_)
              have ez_22 := ez_22.trans (show _ = nI n by exact congrArg nI (by omega))
              subst ez_22
              refine hv_ki I (va_runV (As := [.int (nI n)]) (rest := []) C.fix (k_isValid l hlt G Ju_12 _ (isD_le (cut_le aa Ju_12) hD) (by omega) (Nat.lt_succ_self n) (v := 0) (by show hf (nI t) (ar 7 n) = 0; rw [hz9.2.1]; exact hf_m1 (by omega))) (cwV 1 C.2.2.2.2.1 gL_adds_X4_isValid rfl rfl rfl (by decide +kernel) ⟨Nat.le_of_ble_eq_true rfl, Nat.le_of_ble_eq_true rfl⟩) (hv_preV C I (isD_0 (isD_le (cut_le aa Ju_12) hD)) (r := (RX4, TX4, 6)) rfl) rfl rfl hl.1 rfl (lv_room (Nat.le_of_ble_eq_true rfl)) dL_adds_113 ⟨Nat.le_of_ble_eq_true rfl, Nat.le_of_ble_eq_true rfl⟩) (fun ru_23 u_23 H locs pu_23 I => ?_)
              obtain ⟨e1, e2⟩ := pu_23; have e1 := e1.symm; subst e1; have e2 := e2.symm; subst e2
              refine lv_if_ne (tgt := 123) C.1 C.2.1 dL_adds_116 (by decide) (fun c116 => ?_) (fun c116 => ?_)
              · exact absurd rfl c116
              · refine lv_iconst (v := 1) C.1 C.2.1 dL_adds_119 (by decide) ?_
                refine lv_goto (tgt := 124) C.1 C.2.1 dL_adds_120 (by decide) ?_
                exact hv_zret (v := 1) C hr I rfl (⟨rfl, (by rw [← e3]; exact inv_mk hD (hN.adds hn20 (K := 0) (L := y % 6 + 1) (Or.inr ⟨by decide, by omega, by omega⟩) (pt_new 0 (by decide) (y % 6 + 1) (by omega)) rfl) ⟨fH, fT, fP, fC, fZ⟩)⟩) dL_adds_124 (Nat.le_of_ble_eq_true rfl) (Nat.le_of_ble_eq_true rfl)
        · exact absurd c38 (by decide)
      · have c25 : ¬ (3 ≤ x % 5) := fun z => c25 ((nI_leI (a := 3) (b := x % 5) (by omega) (by omega)).mpr z)
        refine lv_iconst (v := 1) C.1 C.2.1 dL_adds_28 (by decide) ?_
        refine lv_goto (tgt := 33) C.1 C.2.1 dL_adds_29 (by decide) ?_
        refine lv_istore (lv' := [(5, .int 1), (0, .ref (ad 0 0)), (1, .int (nI x)), (2, .int (nI y)), (3, .ref (aa 0)), (4, .ref (aa 3))]) C.1 C.2.1 dL_adds_33 hl (by decide) rfl (fun ls hl => ?_)
        refine lv_iload C.1 C.2.1 dL_adds_35 (lv_at hl 0 rfl) ?_
        refine lv_iconst (v := 2) C.1 C.2.1 dL_adds_37 (by decide) ?_
        refine lv_icmp_ne (tgt := 45) C.1 C.2.1 dL_adds_38 (by decide) (fun c38 => ?_) (fun c38 => ?_)
        · refine lv_iload_n C.1 C.2.1 dL_adds_45 rfl (lv_at hl 3 rfl) ?_
          refine lv_bipush (v := 6) C.1 C.2.1 dL_adds_46 (by decide) ?_
          refine lv_irem C.1 C.2.1 dL_adds_48 (by decide) ?_
          refine lv_topi (fun z_24 ez_24 => ?_)
          have ez_24 := ez_24.trans (show _ = nI (y % 6) by exact pk_rem (a := y) (d := 6) (by omega) (by decide) (by decide))
          subst ez_24
          refine lv_topi (fun z_25 ez_25 => ?_)
          have ez_25 := ez_25.trans (show _ = nI (y % 6 + 1) - 1 by exact (nI_pred _).symm)
          subst ez_25
          refine lv_istore (lv' := [(6, .int (nI (y % 6 + 1) - 1)), (5, .int 1), (0, .ref (ad 0 0)), (1, .int (nI x)), (2, .int (nI y)), (3, .ref (aa 0)), (4, .ref (aa 3))]) C.1 C.2.1 dL_adds_49 hl (by decide) rfl (fun ls hl => ?_)
          refine lv_aload_n C.1 C.2.1 dL_adds_51 rfl (lv_at hl 5 rfl) ?_
          refine lv_aload C.1 C.2.1 dL_adds_52 (lv_at hl 6 rfl) ?_
          refine lv_iconst (v := 1) C.1 C.2.1 dL_adds_54 (by decide) ?_
          refine hv_ialdN (i := 1) C I fC (by decide) (by decide) dL_adds_55 ?_
          refine lv_topi (fun z_26 ez_26 => ?_)
          have ez_26 := ez_26.trans (show _ = nI n by exact ec1)
          subst ez_26
          refine lv_iload C.1 C.2.1 dL_adds_56 (lv_at hl 1 rfl) ?_
          refine lv_i2l C.1 C.2.1 dL_adds_58 rfl ?_
          refine lv_iload C.1 C.2.1 dL_adds_59 (lv_at hl 0 rfl) ?_
          refine lv_iconst (v := 1) C.1 C.2.1 dL_adds_61 (by decide) ?_
          refine lv_iadd C.1 C.2.1 dL_adds_62 ?_
          refine lv_topi (fun z_27 ez_27 => ?_)
          have ez_27 := ez_27.trans (show _ = nI (y % 6 + 1) by simp)
          subst ez_27
          refine lv_i2l C.1 C.2.1 dL_adds_63 rfl ?_
          refine lv_iconst (v := 2) C.1 C.2.1 dL_adds_64 (by decide) ?_
          refine lv_lshl C.1 C.2.1 dL_adds_65 rfl ?_
          refine lv_lor C.1 C.2.1 dL_adds_66 ?_
          refine hv_lastN (i := n) C I fH (by omega) (by decide) dL_adds_67 (fun H locs I => ?_)
          obtain ⟨h_28, eh_28⟩ : ∃ z, z = hv_up h (aa 0) (.inl (G.2.1 4, 20, .inr (.inl (vp_updL hF n (((1 : Int32).toInt64) ||| (((nI (y % 6 + 1)).toInt64) <<< ((2 : Int32).toInt64 &&& 63))))))) := ⟨_, rfl⟩
          have I : hv_I G h s h_28 H locs := by rw [eh_28]; exact I
          have hD : isD G (cut aa h_28) ad n d d (nI t) rf ar fm po := by rw [eh_28, cut_up (Or.inl rfl)]; exact hD
          have fH9 : h_28 (aa 0) = some (.inl (G.2.1 4, 20, .inr (.inl (vp_updL hF n (((1 : Int32).toInt64) ||| (((nI (y % 6 + 1)).toInt64) <<< ((2 : Int32).toInt64 &&& 63))))))) := by rw [eh_28]; exact hv_up_eq
          have fT9 : h_28 (aa 1) = some (.inl (G.2.1 0, 12, .inl tF)) := by rw [eh_28, hv_up_ne (hv_neLen fT fH (by decide))]; exact fT
          have fP9 : h_28 (aa 2) = some (.inl (G.2.1 0, 13, .inl pF)) := by rw [eh_28, hv_up_ne (hv_neLen fP fH (by decide))]; exact fP
          have fC9 : h_28 (aa 3) = some (.inl (G.2.1 0, 3, .inl cF)) := by rw [eh_28, hv_up_ne (hv_neLen fC fH (by decide))]; exact fC
          have fZ9 : h_28 (aa 4) = some (.inl (G.2.1 4, 1, .inr (.inl zF))) := by rw [eh_28, hv_up_ne (hv_neLen fZ fH (by decide))]; exact fZ
          have fH := fH9
          have fT := fT9
          have fP := fP9
          have fC := fC9
          have fZ := fZ9
          refine lv_aload C.1 C.2.1 dL_adds_68 (lv_at hl 6 rfl) ?_
          refine lv_iconst (v := 1) C.1 C.2.1 dL_adds_70 (by decide) ?_
          refine lv_dup2_11 C.1 C.2.1 dL_adds_71 rfl rfl ?_
          refine hv_ialdN (i := 1) C I fC (by decide) (by decide) dL_adds_72 ?_
          refine lv_topi (fun z_29 ez_29 => ?_)
          have ez_29 := ez_29.trans (show _ = nI n by exact ec1)
          subst ez_29
          refine lv_iconst (v := 1) C.1 C.2.1 dL_adds_73 (by decide) ?_
          refine lv_iadd C.1 C.2.1 dL_adds_74 ?_
          refine lv_topi (fun z_30 ez_30 => ?_)
          have ez_30 := ez_30.trans (show _ = nI (n + 1) by exact nI_add n 1)
          subst ez_30
          refine hv_iastN (i := 1) C I fC (by decide) (by decide) dL_adds_75 (fun H locs I => ?_)
          obtain ⟨h_31, eh_31⟩ : ∃ z, z = hv_up h_28 (aa 3) (.inl (G.2.1 0, 3, .inl (upd cF 1 (nI (n + 1))))) := ⟨_, rfl⟩
          have I : hv_I G h s h_31 H locs := by rw [eh_31]; exact I
          have hD : isD G (cut aa h_31) ad n d d (nI t) rf ar fm po := by rw [eh_31, cut_up (Or.inr (Or.inr (Or.inr (Or.inl rfl))))]; exact hD
          have fH9 : h_31 (aa 0) = some (.inl (G.2.1 4, 20, .inr (.inl (vp_updL hF n (((1 : Int32).toInt64) ||| (((nI (y % 6 + 1)).toInt64) <<< ((2 : Int32).toInt64 &&& 63))))))) := by rw [eh_31, hv_up_ne (hv_neLen fH fC (by decide))]; exact fH
          have fT9 : h_31 (aa 1) = some (.inl (G.2.1 0, 12, .inl tF)) := by rw [eh_31, hv_up_ne (hv_neLen fT fC (by decide))]; exact fT
          have fP9 : h_31 (aa 2) = some (.inl (G.2.1 0, 13, .inl pF)) := by rw [eh_31, hv_up_ne (hv_neLen fP fC (by decide))]; exact fP
          have fC9 : h_31 (aa 3) = some (.inl (G.2.1 0, 3, .inl (upd cF 1 (nI (n + 1))))) := by rw [eh_31]; exact hv_up_eq
          have fZ9 : h_31 (aa 4) = some (.inl (G.2.1 4, 1, .inr (.inl zF))) := by rw [eh_31, hv_up_ne (hv_neLen fZ fC (by decide))]; exact fZ
          have fH := fH9
          have fT := fT9
          have fP := fP9
          have fC := fC9
          have fZ := fZ9
          refine lv_aload_n C.1 C.2.1 dL_adds_76 rfl (lv_at hl 2 rfl) ?_
          refine lv_iload C.1 C.2.1 dL_adds_77 (lv_at hl 1 rfl) ?_
          refine lv_iload C.1 C.2.1 dL_adds_79 (lv_at hl 0 rfl) ?_
          have hA : lvA aa h_31 := LV.A (G := G) ⟨fH, fT, fP, fC, fZ⟩
          refine hv_ski I (cut_le aa h_31) (va_runV (As := [.int 1, .int (nI (y % 6 + 1) - 1)]) (rest := []) C.fix (k_addHolder l hlt G (cut aa h_31) _ hD hn20 ⟨hz9.1, hz9.2.1, hz9.2.2, hq9⟩ (K := 1) (L := y % 6 + 1) (Or.inr ⟨by decide, by omega, by omega⟩)) (cwV 2 C.2.2.2.2.1 gL_adds_X4_addHolder rfl rfl rfl (by decide +kernel) ⟨Nat.le_of_ble_eq_true rfl, Nat.le_of_ble_eq_true rfl⟩) (hv_preV C (I.sub (cut_le aa h_31)) (isD_0 hD) (r := (RX4, TX4, 6)) rfl) rfl rfl hl.1 rfl (lv_room (Nat.le_of_ble_eq_true rfl)) dL_adds_81 ⟨Nat.le_of_ble_eq_true rfl, Nat.le_of_ble_eq_true rfl⟩) (fun ru_32 u_32 Ju_32 H locs pu_32 hfr I => ?_)
          obtain ⟨hle, hkp⟩ := cut_aft hA hfr
          have fH9 : Ju_32 (aa 0) = some (.inl (G.2.1 4, 20, .inr (.inl (vp_updL hF n (((1 : Int32).toInt64) ||| (((nI (y % 6 + 1)).toInt64) <<< ((2 : Int32).toInt64 &&& 63))))))) := (hkp _ (Or.inl rfl)).trans fH
          have fT9 : Ju_32 (aa 1) = some (.inl (G.2.1 0, 12, .inl tF)) := (hkp _ (Or.inr (Or.inl rfl))).trans fT
          have fP9 : Ju_32 (aa 2) = some (.inl (G.2.1 0, 13, .inl pF)) := (hkp _ (Or.inr (Or.inr (Or.inl rfl)))).trans fP
          have fC9 : Ju_32 (aa 3) = some (.inl (G.2.1 0, 3, .inl (upd cF 1 (nI (n + 1))))) := (hkp _ (Or.inr (Or.inr (Or.inr (Or.inl rfl))))).trans fC
          have fZ9 : Ju_32 (aa 4) = some (.inl (G.2.1 4, 1, .inr (.inl zF))) := (hkp _ (Or.inr (Or.inr (Or.inr (Or.inr rfl))))).trans fZ
          have fH := fH9
          have fT := fT9
          have fP := fP9
          have fC := fC9
          have fZ := fZ9
          obtain ⟨e2, ad2, e3, hD2⟩ := pu_32; have e2 := e2.symm; subst e2
          have hD : isD G (cut aa Ju_32) ad2 (n + 1) d d (nI t) rf (va_up (va_up ar 4 (upd (ar 4) n (nI 1))) 5 (upd (ar 5) n (nI (y % 6 + 1) - 1))) fm po := isD_le hle hD2
          rw [← e3] at hl
          refine lv_aload C.1 C.2.1 dL_adds_84 (lv_at hl 6 rfl) ?_
          refine lv_iconst (v := 1) C.1 C.2.1 dL_adds_86 (by decide) ?_
          refine hv_ialdN (i := 1) C I fC (by decide) (by decide) dL_adds_87 ?_
          refine lv_topi (fun z_33 ez_33 => ?_)
          have ez_33 := ez_33.trans (show _ = nI (n + 1) by exact upd_eq)
          subst ez_33
          refine lv_iconst (v := 1) C.1 C.2.1 dL_adds_88 (by decide) ?_
          refine lv_isub C.1 C.2.1 dL_adds_89 ?_
          refine lv_topi (fun z_34 ez_34 => ?_)
          have ez_34 := ez_34.trans (show _ = nI ((n + 1) - 1) by exact pk_sub (a := (n + 1)) (b := 1) (by omega))
          subst ez_34
          refine lv_topi (fun z_35 ez_35 => ?_)
          have ez_35 := ez_35.trans (show _ = nI n by exact congrArg nI (by omega))
          subst ez_35
          refine lv_icmp_ne (tgt := 123) C.1 C.2.1 dL_adds_90 (by decide) (fun c90 => ?_) (fun c90 => ?_)
          · exact absurd rfl c90
          · refine lv_aload_n C.1 C.2.1 dL_adds_93 rfl (lv_at hl 2 rfl) ?_
            refine lv_aload C.1 C.2.1 dL_adds_94 (lv_at hl 6 rfl) ?_
            refine lv_iconst (v := 1) C.1 C.2.1 dL_adds_96 (by decide) ?_
            refine hv_ialdN (i := 1) C I fC (by decide) (by decide) dL_adds_97 ?_
            refine lv_topi (fun z_36 ez_36 => ?_)
            have ez_36 := ez_36.trans (show _ = nI (n + 1) by exact upd_eq)
            subst ez_36
            refine lv_iconst (v := 1) C.1 C.2.1 dL_adds_98 (by decide) ?_
            refine lv_isub C.1 C.2.1 dL_adds_99 ?_
            refine lv_topi (fun z_37 ez_37 => ?_)
            have ez_37 := ez_37.trans (show _ = nI ((n + 1) - 1) by exact pk_sub (a := (n + 1)) (b := 1) (by omega))
            subst ez_37
            refine lv_topi (fun z_38 ez_38 => ?_)
            have ez_38 := ez_38.trans (show _ = nI n by exact congrArg nI (by omega))
            subst ez_38
            refine hv_ki I (va_runV (As := [.int (nI n)]) (rest := []) C.fix (k_shares l hlt G Ju_32 _ (isD_le (cut_le aa Ju_32) hD) (by omega) (Nat.lt_succ_self n) (v := 0) hz9.1) (cwV 1 C.2.2.2.2.1 gL_adds_X4_shares rfl rfl rfl (by decide +kernel) ⟨Nat.le_of_ble_eq_true rfl, Nat.le_of_ble_eq_true rfl⟩) (hv_preV C I (isD_0 (isD_le (cut_le aa Ju_32) hD)) (r := (RX4, TX4, 6)) rfl) rfl rfl hl.1 rfl (lv_room (Nat.le_of_ble_eq_true rfl)) dL_adds_100 ⟨Nat.le_of_ble_eq_true rfl, Nat.le_of_ble_eq_true rfl⟩) (fun ru_39 u_39 H locs pu_39 I => ?_)
            obtain ⟨e1, e2⟩ := pu_39; have e1 := e1.symm; subst e1; have e2 := e2.symm; subst e2
            refine lv_if_ne (tgt := 123) C.1 C.2.1 dL_adds_103 (by decide) (fun c103 => ?_) (fun c103 => ?_)
            · exact absurd rfl c103
            · refine lv_aload_n C.1 C.2.1 dL_adds_106 rfl (lv_at hl 2 rfl) ?_
              refine lv_aload C.1 C.2.1 dL_adds_107 (lv_at hl 6 rfl) ?_
              refine lv_iconst (v := 1) C.1 C.2.1 dL_adds_109 (by decide) ?_
              refine hv_ialdN (i := 1) C I fC (by decide) (by decide) dL_adds_110 ?_
              refine lv_topi (fun z_40 ez_40 => ?_)
              have ez_40 := ez_40.trans (show _ = nI (n + 1) by exact upd_eq)
              subst ez_40
              refine lv_iconst (v := 1) C.1 C.2.1 dL_adds_111 (by decide) ?_
              refine lv_isub C.1 C.2.1 dL_adds_112 ?_
              refine lv_topi (fun z_41 ez_41 => ?_)
              have ez_41 := ez_41.trans (show _ = nI ((n + 1) - 1) by exact pk_sub (a := (n + 1)) (b := 1) (by omega))
              subst ez_41
              refine lv_topi (fun z_42 ez_42 => ?_)
              have ez_42 := ez_42.trans (show _ = nI n by exact congrArg nI (by omega))
              subst ez_42
              refine hv_ki I (va_runV (As := [.int (nI n)]) (rest := []) C.fix (k_isValid l hlt G Ju_32 _ (isD_le (cut_le aa Ju_32) hD) (by omega) (Nat.lt_succ_self n) (v := 0) (by show hf (nI t) (ar 7 n) = 0; rw [hz9.2.1]; exact hf_m1 (by omega))) (cwV 1 C.2.2.2.2.1 gL_adds_X4_isValid rfl rfl rfl (by decide +kernel) ⟨Nat.le_of_ble_eq_true rfl, Nat.le_of_ble_eq_true rfl⟩) (hv_preV C I (isD_0 (isD_le (cut_le aa Ju_32) hD)) (r := (RX4, TX4, 6)) rfl) rfl rfl hl.1 rfl (lv_room (Nat.le_of_ble_eq_true rfl)) dL_adds_113 ⟨Nat.le_of_ble_eq_true rfl, Nat.le_of_ble_eq_true rfl⟩) (fun ru_43 u_43 H locs pu_43 I => ?_)
              obtain ⟨e1, e2⟩ := pu_43; have e1 := e1.symm; subst e1; have e2 := e2.symm; subst e2
              refine lv_if_ne (tgt := 123) C.1 C.2.1 dL_adds_116 (by decide) (fun c116 => ?_) (fun c116 => ?_)
              · exact absurd rfl c116
              · refine lv_iconst (v := 1) C.1 C.2.1 dL_adds_119 (by decide) ?_
                refine lv_goto (tgt := 124) C.1 C.2.1 dL_adds_120 (by decide) ?_
                exact hv_zret (v := 1) C hr I rfl (⟨rfl, (by rw [← e3]; exact inv_mk hD (hN.adds hn20 (K := 1) (L := y % 6 + 1) (Or.inr ⟨by decide, by omega, by omega⟩) (pt_new 1 (by decide) (y % 6 + 1) (by omega)) rfl) ⟨fH, fT, fP, fC, fZ⟩)⟩) dL_adds_124 (Nat.le_of_ble_eq_true rfl) (Nat.le_of_ble_eq_true rfl)
        · exact absurd c38 (by decide)
    · have c14 : x % 5 = 0 := (nI_eq (a := x % 5) (b := 0) (by omega) (by omega)).mp c14
      refine lv_iconst (v := 2) C.1 C.2.1 dL_adds_17 (by decide) ?_
      refine lv_goto (tgt := 33) C.1 C.2.1 dL_adds_18 (by decide) ?_
      refine lv_istore (lv' := [(5, .int 2), (0, .ref (ad 0 0)), (1, .int (nI x)), (2, .int (nI y)), (3, .ref (aa 0)), (4, .ref (aa 3))]) C.1 C.2.1 dL_adds_33 hl (by decide) rfl (fun ls hl => ?_)
      refine lv_iload C.1 C.2.1 dL_adds_35 (lv_at hl 0 rfl) ?_
      refine lv_iconst (v := 2) C.1 C.2.1 dL_adds_37 (by decide) ?_
      refine lv_icmp_ne (tgt := 45) C.1 C.2.1 dL_adds_38 (by decide) (fun c38 => ?_) (fun c38 => ?_)
      · exact absurd rfl c38
      · refine lv_iconst (v := (-1)) C.1 C.2.1 dL_adds_41 (by decide) ?_
        refine lv_topi (fun z_44 ez_44 => ?_)
        have ez_44 := ez_44.trans (show _ = nI 0 - 1 by exact nI_m1.symm)
        subst ez_44
        refine lv_goto (tgt := 49) C.1 C.2.1 dL_adds_42 (by decide) ?_
        refine lv_istore (lv' := [(6, .int (nI 0 - 1)), (5, .int 2), (0, .ref (ad 0 0)), (1, .int (nI x)), (2, .int (nI y)), (3, .ref (aa 0)), (4, .ref (aa 3))]) C.1 C.2.1 dL_adds_49 hl (by decide) rfl (fun ls hl => ?_)
        refine lv_aload_n C.1 C.2.1 dL_adds_51 rfl (lv_at hl 5 rfl) ?_
        refine lv_aload C.1 C.2.1 dL_adds_52 (lv_at hl 6 rfl) ?_
        refine lv_iconst (v := 1) C.1 C.2.1 dL_adds_54 (by decide) ?_
        refine hv_ialdN (i := 1) C I fC (by decide) (by decide) dL_adds_55 ?_
        refine lv_topi (fun z_45 ez_45 => ?_)
        have ez_45 := ez_45.trans (show _ = nI n by exact ec1)
        subst ez_45
        refine lv_iload C.1 C.2.1 dL_adds_56 (lv_at hl 1 rfl) ?_
        refine lv_i2l C.1 C.2.1 dL_adds_58 rfl ?_
        refine lv_iload C.1 C.2.1 dL_adds_59 (lv_at hl 0 rfl) ?_
        refine lv_iconst (v := 1) C.1 C.2.1 dL_adds_61 (by decide) ?_
        refine lv_iadd C.1 C.2.1 dL_adds_62 ?_
        refine lv_topi (fun z_46 ez_46 => ?_)
        have ez_46 := ez_46.trans (show _ = nI 0 by simp)
        subst ez_46
        refine lv_i2l C.1 C.2.1 dL_adds_63 rfl ?_
        refine lv_iconst (v := 2) C.1 C.2.1 dL_adds_64 (by decide) ?_
        refine lv_lshl C.1 C.2.1 dL_adds_65 rfl ?_
        refine lv_lor C.1 C.2.1 dL_adds_66 ?_
        refine hv_lastN (i := n) C I fH (by omega) (by decide) dL_adds_67 (fun H locs I => ?_)
        obtain ⟨h_47, eh_47⟩ : ∃ z, z = hv_up h (aa 0) (.inl (G.2.1 4, 20, .inr (.inl (vp_updL hF n (((2 : Int32).toInt64) ||| (((nI 0).toInt64) <<< ((2 : Int32).toInt64 &&& 63))))))) := ⟨_, rfl⟩
        have I : hv_I G h s h_47 H locs := by rw [eh_47]; exact I
        have hD : isD G (cut aa h_47) ad n d d (nI t) rf ar fm po := by rw [eh_47, cut_up (Or.inl rfl)]; exact hD
        have fH9 : h_47 (aa 0) = some (.inl (G.2.1 4, 20, .inr (.inl (vp_updL hF n (((2 : Int32).toInt64) ||| (((nI 0).toInt64) <<< ((2 : Int32).toInt64 &&& 63))))))) := by rw [eh_47]; exact hv_up_eq
        have fT9 : h_47 (aa 1) = some (.inl (G.2.1 0, 12, .inl tF)) := by rw [eh_47, hv_up_ne (hv_neLen fT fH (by decide))]; exact fT
        have fP9 : h_47 (aa 2) = some (.inl (G.2.1 0, 13, .inl pF)) := by rw [eh_47, hv_up_ne (hv_neLen fP fH (by decide))]; exact fP
        have fC9 : h_47 (aa 3) = some (.inl (G.2.1 0, 3, .inl cF)) := by rw [eh_47, hv_up_ne (hv_neLen fC fH (by decide))]; exact fC
        have fZ9 : h_47 (aa 4) = some (.inl (G.2.1 4, 1, .inr (.inl zF))) := by rw [eh_47, hv_up_ne (hv_neLen fZ fH (by decide))]; exact fZ
        have fH := fH9
        have fT := fT9
        have fP := fP9
        have fC := fC9
        have fZ := fZ9
        refine lv_aload C.1 C.2.1 dL_adds_68 (lv_at hl 6 rfl) ?_
        refine lv_iconst (v := 1) C.1 C.2.1 dL_adds_70 (by decide) ?_
        refine lv_dup2_11 C.1 C.2.1 dL_adds_71 rfl rfl ?_
        refine hv_ialdN (i := 1) C I fC (by decide) (by decide) dL_adds_72 ?_
        refine lv_topi (fun z_48 ez_48 => ?_)
        have ez_48 := ez_48.trans (show _ = nI n by exact ec1)
        subst ez_48
        refine lv_iconst (v := 1) C.1 C.2.1 dL_adds_73 (by decide) ?_
        refine lv_iadd C.1 C.2.1 dL_adds_74 ?_
        refine lv_topi (fun z_49 ez_49 => ?_)
        have ez_49 := ez_49.trans (show _ = nI (n + 1) by exact nI_add n 1)
        subst ez_49
        refine hv_iastN (i := 1) C I fC (by decide) (by decide) dL_adds_75 (fun H locs I => ?_)
        obtain ⟨h_50, eh_50⟩ : ∃ z, z = hv_up h_47 (aa 3) (.inl (G.2.1 0, 3, .inl (upd cF 1 (nI (n + 1))))) := ⟨_, rfl⟩
        have I : hv_I G h s h_50 H locs := by rw [eh_50]; exact I
        have hD : isD G (cut aa h_50) ad n d d (nI t) rf ar fm po := by rw [eh_50, cut_up (Or.inr (Or.inr (Or.inr (Or.inl rfl))))]; exact hD
        have fH9 : h_50 (aa 0) = some (.inl (G.2.1 4, 20, .inr (.inl (vp_updL hF n (((2 : Int32).toInt64) ||| (((nI 0).toInt64) <<< ((2 : Int32).toInt64 &&& 63))))))) := by rw [eh_50, hv_up_ne (hv_neLen fH fC (by decide))]; exact fH
        have fT9 : h_50 (aa 1) = some (.inl (G.2.1 0, 12, .inl tF)) := by rw [eh_50, hv_up_ne (hv_neLen fT fC (by decide))]; exact fT
        have fP9 : h_50 (aa 2) = some (.inl (G.2.1 0, 13, .inl pF)) := by rw [eh_50, hv_up_ne (hv_neLen fP fC (by decide))]; exact fP
        have fC9 : h_50 (aa 3) = some (.inl (G.2.1 0, 3, .inl (upd cF 1 (nI (n + 1))))) := by rw [eh_50]; exact hv_up_eq
        have fZ9 : h_50 (aa 4) = some (.inl (G.2.1 4, 1, .inr (.inl zF))) := by rw [eh_50, hv_up_ne (hv_neLen fZ fC (by decide))]; exact fZ
        have fH := fH9
        have fT := fT9
        have fP := fP9
        have fC := fC9
        have fZ := fZ9
        refine lv_aload_n C.1 C.2.1 dL_adds_76 rfl (lv_at hl 2 rfl) ?_
        refine lv_iload C.1 C.2.1 dL_adds_77 (lv_at hl 1 rfl) ?_
        refine lv_iload C.1 C.2.1 dL_adds_79 (lv_at hl 0 rfl) ?_
        have hA : lvA aa h_50 := LV.A (G := G) ⟨fH, fT, fP, fC, fZ⟩
        refine hv_ski I (cut_le aa h_50) (va_runV (As := [.int 2, .int (nI 0 - 1)]) (rest := []) C.fix (k_addHolder l hlt G (cut aa h_50) _ hD hn20 ⟨hz9.1, hz9.2.1, hz9.2.2, hq9⟩ (K := 2) (L := 0) (Or.inl ⟨rfl, rfl⟩)) (cwV 2 C.2.2.2.2.1 gL_adds_X4_addHolder rfl rfl rfl (by decide +kernel) ⟨Nat.le_of_ble_eq_true rfl, Nat.le_of_ble_eq_true rfl⟩) (hv_preV C (I.sub (cut_le aa h_50)) (isD_0 hD) (r := (RX4, TX4, 6)) rfl) rfl rfl hl.1 rfl (lv_room (Nat.le_of_ble_eq_true rfl)) dL_adds_81 ⟨Nat.le_of_ble_eq_true rfl, Nat.le_of_ble_eq_true rfl⟩) (fun ru_51 u_51 Ju_51 H locs pu_51 hfr I => ?_)
        obtain ⟨hle, hkp⟩ := cut_aft hA hfr
        have fH9 : Ju_51 (aa 0) = some (.inl (G.2.1 4, 20, .inr (.inl (vp_updL hF n (((2 : Int32).toInt64) ||| (((nI 0).toInt64) <<< ((2 : Int32).toInt64 &&& 63))))))) := (hkp _ (Or.inl rfl)).trans fH
        have fT9 : Ju_51 (aa 1) = some (.inl (G.2.1 0, 12, .inl tF)) := (hkp _ (Or.inr (Or.inl rfl))).trans fT
        have fP9 : Ju_51 (aa 2) = some (.inl (G.2.1 0, 13, .inl pF)) := (hkp _ (Or.inr (Or.inr (Or.inl rfl)))).trans fP
        have fC9 : Ju_51 (aa 3) = some (.inl (G.2.1 0, 3, .inl (upd cF 1 (nI (n + 1))))) := (hkp _ (Or.inr (Or.inr (Or.inr (Or.inl rfl))))).trans fC
        have fZ9 : Ju_51 (aa 4) = some (.inl (G.2.1 4, 1, .inr (.inl zF))) := (hkp _ (Or.inr (Or.inr (Or.inr (Or.inr rfl))))).trans fZ
        have fH := fH9
        have fT := fT9
        have fP := fP9
        have fC := fC9
        have fZ := fZ9
        obtain ⟨e2, ad2, e3, hD2⟩ := pu_51; have e2 := e2.symm; subst e2
        have hD : isD G (cut aa Ju_51) ad2 (n + 1) d d (nI t) rf (va_up (va_up ar 4 (upd (ar 4) n (nI 2))) 5 (upd (ar 5) n (nI (0) - 1))) fm po := isD_le hle hD2
        rw [← e3] at hl
        refine lv_aload C.1 C.2.1 dL_adds_84 (lv_at hl 6 rfl) ?_
        refine lv_iconst (v := 1) C.1 C.2.1 dL_adds_86 (by decide) ?_
        refine hv_ialdN (i := 1) C I fC (by decide) (by decide) dL_adds_87 ?_
        refine lv_topi (fun z_52 ez_52 => ?_)
        have ez_52 := ez_52.trans (show _ = nI (n + 1) by exact upd_eq)
        subst ez_52
        refine lv_iconst (v := 1) C.1 C.2.1 dL_adds_88 (by decide) ?_
        refine lv_isub C.1 C.2.1 dL_adds_89 ?_
        refine lv_topi (fun z_53 ez_53 => ?_)
        have ez_53 := ez_53.trans (show _ = nI ((n + 1) - 1) by exact pk_sub (a := (n + 1)) (b := 1) (by omega))
        subst ez_53
        refine lv_topi (fun z_54 ez_54 => ?_)
        have ez_54 := ez_54.trans (show _ = nI n by exact congrArg nI (by omega))
        subst ez_54
        refine lv_icmp_ne (tgt := 123) C.1 C.2.1 dL_adds_90 (by decide) (fun c90 => ?_) (fun c90 => ?_)
        · exact absurd rfl c90
        · refine lv_aload_n C.1 C.2.1 dL_adds_93 rfl (lv_at hl 2 rfl) ?_
          refine lv_aload C.1 C.2.1 dL_adds_94 (lv_at hl 6 rfl) ?_
          refine lv_iconst (v := 1) C.1 C.2.1 dL_adds_96 (by decide) ?_
          refine hv_ialdN (i := 1) C I fC (by decide) (by decide) dL_adds_97 ?_
          refine lv_topi (fun z_55 ez_55 => ?_)
          have ez_55 := ez_55.trans (show _ = nI (n + 1) by exact upd_eq)
          subst ez_55
          refine lv_iconst (v := 1) C.1 C.2.1 dL_adds_98 (by decide) ?_
          refine lv_isub C.1 C.2.1 dL_adds_99 ?_
          refine lv_topi (fun z_56 ez_56 => ?_)
          have ez_56 := ez_56.trans (show _ = nI ((n + 1) - 1) by exact pk_sub (a := (n + 1)) (b := 1) (by omega))
          subst ez_56
          refine lv_topi (fun z_57 ez_57 => ?_)
          have ez_57 := ez_57.trans (show _ = nI n by exact congrArg nI (by omega))
          subst ez_57
          refine hv_ki I (va_runV (As := [.int (nI n)]) (rest := []) C.fix (k_shares l hlt G Ju_51 _ (isD_le (cut_le aa Ju_51) hD) (by omega) (Nat.lt_succ_self n) (v := 0) hz9.1) (cwV 1 C.2.2.2.2.1 gL_adds_X4_shares rfl rfl rfl (by decide +kernel) ⟨Nat.le_of_ble_eq_true rfl, Nat.le_of_ble_eq_true rfl⟩) (hv_preV C I (isD_0 (isD_le (cut_le aa Ju_51) hD)) (r := (RX4, TX4, 6)) rfl) rfl rfl hl.1 rfl (lv_room (Nat.le_of_ble_eq_true rfl)) dL_adds_100 ⟨Nat.le_of_ble_eq_true rfl, Nat.le_of_ble_eq_true rfl⟩) (fun ru_58 u_58 H locs pu_58 I => ?_)
          obtain ⟨e1, e2⟩ := pu_58; have e1 := e1.symm; subst e1; have e2 := e2.symm; subst e2
          refine lv_if_ne (tgt := 123) C.1 C.2.1 dL_adds_103 (by decide) (fun c103 => ?_) (fun c103 => ?_)
          · exact absurd rfl c103
          · refine lv_aload_n C.1 C.2.1 dL_adds_106 rfl (lv_at hl 2 rfl) ?_
            refine lv_aload C.1 C.2.1 dL_adds_107 (lv_at hl 6 rfl) ?_
            refine lv_iconst (v := 1) C.1 C.2.1 dL_adds_109 (by decide) ?_
            refine hv_ialdN (i := 1) C I fC (by decide) (by decide) dL_adds_110 ?_
            refine lv_topi (fun z_59 ez_59 => ?_)
            have ez_59 := ez_59.trans (show _ = nI (n + 1) by exact upd_eq)
            subst ez_59
            refine lv_iconst (v := 1) C.1 C.2.1 dL_adds_111 (by decide) ?_
            refine lv_isub C.1 C.2.1 dL_adds_112 ?_
            refine lv_topi (fun z_60 ez_60 => ?_)
            have ez_60 := ez_60.trans (show _ = nI ((n + 1) - 1) by exact pk_sub (a := (n + 1)) (b := 1) (by omega))
            subst ez_60
            refine lv_topi (fun z_61 ez_61 => ?_)
            have ez_61 := ez_61.trans (show _ = nI n by exact congrArg nI (by omega))
            subst ez_61
            refine hv_ki I (va_runV (As := [.int (nI n)]) (rest := []) C.fix (k_isValid l hlt G Ju_51 _ (isD_le (cut_le aa Ju_51) hD) (by omega) (Nat.lt_succ_self n) (v := 0) (by show hf (nI t) (ar 7 n) = 0; rw [hz9.2.1]; exact hf_m1 (by omega))) (cwV 1 C.2.2.2.2.1 gL_adds_X4_isValid rfl rfl rfl (by decide +kernel) ⟨Nat.le_of_ble_eq_true rfl, Nat.le_of_ble_eq_true rfl⟩) (hv_preV C I (isD_0 (isD_le (cut_le aa Ju_51) hD)) (r := (RX4, TX4, 6)) rfl) rfl rfl hl.1 rfl (lv_room (Nat.le_of_ble_eq_true rfl)) dL_adds_113 ⟨Nat.le_of_ble_eq_true rfl, Nat.le_of_ble_eq_true rfl⟩) (fun ru_62 u_62 H locs pu_62 I => ?_)
            obtain ⟨e1, e2⟩ := pu_62; have e1 := e1.symm; subst e1; have e2 := e2.symm; subst e2
            refine lv_if_ne (tgt := 123) C.1 C.2.1 dL_adds_116 (by decide) (fun c116 => ?_) (fun c116 => ?_)
            · exact absurd rfl c116
            · refine lv_iconst (v := 1) C.1 C.2.1 dL_adds_119 (by decide) ?_
              refine lv_goto (tgt := 124) C.1 C.2.1 dL_adds_120 (by decide) ?_
              exact hv_zret (v := 1) C hr I rfl (⟨rfl, (by rw [← e3]; exact inv_mk hD (hN.adds hn20 (K := 2) (L := 0) (Or.inl ⟨rfl, rfl⟩) (pt_new 2 (by decide) (0) (by omega)) rfl) ⟨fH, fT, fP, fC, fZ⟩)⟩) dL_adds_124 (Nat.le_of_ble_eq_true rfl) (Nat.le_of_ble_eq_true rfl)
  · have c6 : n = 20 := (nI_eq (a := n) (b := 20) (by omega) (by omega)).mp c6
    refine lv_iconst (v := 1) C.1 C.2.1 dL_adds_9 (by decide) ?_
    exact hv_zret (v := 1) C hr I rfl (⟨rfl, inv_mk hD hN hL⟩) dL_adds_10 (Nat.le_of_ble_eq_true rfl) (Nat.le_of_ble_eq_true rfl)

set_option maxHeartbeats 4000000 in
set_option maxRecDepth 100000 in
theorem c_L_passes (l : Launch) (G : hv_G) (h : hv) (sz : Nat)  (hlt : l.stackTraces = false) {aa : Nat → Nat} {ad : Nat → Nat → Nat} {n d t : Nat} {rf : Int64} {ar : AR} {fm : Nat → Int32} {po : PO} {hF : Nat → Int64} {tF pF cF : Nat → Int32} {zF : Nat → Int64} {kd ld sh fo si g la : Nat → Nat} (hD : isD G (cut aa h) ad n d d (nI t) rf ar fm po) (hL : LV G aa h hF tF pF cF zF) (hN : Nm n d t ar po rf hF tF pF cF zF kd ld sh fo si g la) {q : Nat} (hq1 : 1 ≤ q) (hq2 : q ≤ 2000) (hq3 : t + q ≤ 20000) : hv_Mi l yL_passes wsL_passes 9 300 10 60 G h sz [.ref (ad 0 0), .int (nI q), .ref (aa 0), .ref (aa 3)] (fun r u => r = 1 ∧ Inv G aa (ad 0 0) u) := by
  obtain ⟨fH, fT, fP, fC, fZ⟩ := id hL
  obtain ⟨⟨bn, bd, bt⟩, ⟨ec0, ec1, ec2, ez0⟩, hK, hS, hR, hZ, hQ, hP⟩ := id hN
  refine hv_enter (y := yL_passes) (avs := [.ref (ad 0 0), .int (nI q), .ref (aa 0), .ref (aa 3)]) (maxL := 6) (Qf := fun sz => va_Qi (fun r u => r = 1 ∧ Inv G aa (ad 0 0) u) (hv_Bq G h sz) (hv_A h sz)) (by decide) rfl rfl (Nat.le_of_ble_eq_true rfl) ?_
  intro p e s m below meth c hr hnm C I ls hl
  have hl : lv_has ls 6 [(0, .ref (ad 0 0)), (1, .int (nI q)), (2, .ref (aa 0)), (3, .ref (aa 3))] := hl
  refine lv_iconst (v := 0) C.1 C.2.1 dL_passes_0 (by decide) ?_
  refine lv_istore (lv' := [(4, .int 0), (0, .ref (ad 0 0)), (1, .int (nI q)), (2, .ref (aa 0)), (3, .ref (aa 3))]) C.1 C.2.1 dL_passes_1 hl (by decide) rfl (fun ls hl => ?_)
  have loop : ∀ (k9 i : Nat), i ≤ n → n + 1 ≤ i + k9 → ∀ (h_i : hv), isD G (cut aa h_i) ad n d d (nI t) rf ar fm po → h_i (aa 0) = some (.inl (G.2.1 4, 20, .inr (.inl (hFp sh si t hF i)))) → h_i (aa 1) = some (.inl (G.2.1 0, 12, .inl tF)) → h_i (aa 2) = some (.inl (G.2.1 0, 13, .inl pF)) → h_i (aa 3) = some (.inl (G.2.1 0, 3, .inl cF)) → h_i (aa 4) = some (.inl (G.2.1 4, 1, .inr (.inl zF))) → ∀ (H : Heap) (locs : List Loc), hv_I G h s h_i H locs → ∀ ls : Array Slot, lv_has ls 6 [(4, .int (nI i)), (0, .ref (ad 0 0)), (1, .int (nI q)), (2, .ref (aa 0)), (3, .ref (aa 3))] → W p l e (hv_rm 9 10 60 300) s m (([.ref (ad 0 0), .int (nI q), .ref (aa 0), .ref (aa 3)] : List Value).toArray) below meth c H locs 0 0 (MQ below (va_Qi (fun r u => r = 1 ∧ Inv G aa (ad 0 0) u) (hv_Bq G h s.heap.size) (hv_A h s.heap.size)) (([.ref (ad 0 0), .int (nI q), .ref (aa 0), .ref (aa 3)] : List Value).toArray) s 10 60 (hv_A h s.heap.size)) (F0 m 3 ls []) := by
    intro k9
    induction k9 with
    | zero => intro i hi hin; exact absurd hin (by omega)
    | succ k9 loop_ih =>
      intro i hi hin h_i hD fH fT fP fC fZ H locs I ls hl
      refine lv_iload C.1 C.2.1 dL_passes_3 (lv_at hl 0 rfl) ?_
      refine lv_aload_n C.1 C.2.1 dL_passes_5 rfl (lv_at hl 4 rfl) ?_
      refine lv_iconst (v := 1) C.1 C.2.1 dL_passes_6 (by decide) ?_
      refine hv_ialdN (i := 1) C I fC (by decide) (by decide) dL_passes_7 ?_
      refine lv_topi (fun z_1 ez_1 => ?_)
      have ez_1 := ez_1.trans (show _ = nI n by exact ec1)
      subst ez_1
      refine lv_icmp_ge (tgt := 79) C.1 C.2.1 dL_passes_8 (by decide) (fun c8 => ?_) (fun c8 => ?_)
      · have c8 : n ≤ i := (nI_leI (a := n) (b := i) (by omega) (by omega)).mp c8
        have ein : i = n := by omega
        rw [ein] at fH
        refine lv_aload_n C.1 C.2.1 dL_passes_79 rfl (lv_at hl 4 rfl) ?_
        refine lv_iconst (v := 0) C.1 C.2.1 dL_passes_80 (by decide) ?_
        refine lv_dup2_11 C.1 C.2.1 dL_passes_81 rfl rfl ?_
        refine hv_ialdN (i := 0) C I fC (by decide) (by decide) dL_passes_82 ?_
        refine lv_topi (fun z_2 ez_2 => ?_)
        have ez_2 := ez_2.trans (show _ = nI t by exact ec0)
        subst ez_2
        refine lv_iload_n C.1 C.2.1 dL_passes_83 rfl (lv_at hl 2 rfl) ?_
        refine lv_iadd C.1 C.2.1 dL_passes_84 ?_
        refine lv_topi (fun z_3 ez_3 => ?_)
        have ez_3 := ez_3.trans (show _ = nI (t + q) by exact nI_add t q)
        subst ez_3
        refine hv_iastN (i := 0) C I fC (by decide) (by decide) dL_passes_85 (fun H locs I => ?_)
        obtain ⟨h_4, eh_4⟩ : ∃ z, z = hv_up h_i (aa 3) (.inl (G.2.1 0, 3, .inl (upd cF 0 (nI (t + q))))) := ⟨_, rfl⟩
        have I : hv_I G h s h_4 H locs := by rw [eh_4]; exact I
        have hD : isD G (cut aa h_4) ad n d d (nI t) rf ar fm po := by rw [eh_4, cut_up (Or.inr (Or.inr (Or.inr (Or.inl rfl))))]; exact hD
        have fH9 : h_4 (aa 0) = some (.inl (G.2.1 4, 20, .inr (.inl (hFp sh si t hF n)))) := by rw [eh_4, hv_up_ne (hv_neLen fH fC (by decide))]; exact fH
        have fT9 : h_4 (aa 1) = some (.inl (G.2.1 0, 12, .inl tF)) := by rw [eh_4, hv_up_ne (hv_neLen fT fC (by decide))]; exact fT
        have fP9 : h_4 (aa 2) = some (.inl (G.2.1 0, 13, .inl pF)) := by rw [eh_4, hv_up_ne (hv_neLen fP fC (by decide))]; exact fP
        have fC9 : h_4 (aa 3) = some (.inl (G.2.1 0, 3, .inl (upd cF 0 (nI (t + q))))) := by rw [eh_4]; exact hv_up_eq
        have fZ9 : h_4 (aa 4) = some (.inl (G.2.1 4, 1, .inr (.inl zF))) := by rw [eh_4, hv_up_ne (hv_neLen fZ fC (by decide))]; exact fZ
        have fH := fH9
        have fT := fT9
        have fP := fP9
        have fC := fC9
        have fZ := fZ9
        refine lv_aload_n C.1 C.2.1 dL_passes_86 rfl (lv_at hl 1 rfl) ?_
        refine lv_iload_n C.1 C.2.1 dL_passes_87 rfl (lv_at hl 2 rfl) ?_
        have hA : lvA aa h_4 := LV.A (G := G) ⟨fH, fT, fP, fC, fZ⟩
        refine hv_ski I (cut_le aa h_4) (va_runV (As := [.int (nI q)]) (rest := []) C.fix (k_pass l hlt G (cut aa h_4) _ hD bn hq1 hq2 hq3) (cwV 1 C.2.2.2.2.1 gL_passes_X4_pass rfl rfl rfl (by decide +kernel) ⟨Nat.le_of_ble_eq_true rfl, Nat.le_of_ble_eq_true rfl⟩) (hv_preV C (I.sub (cut_le aa h_4)) (isD_0 hD) (r := (RX4, TX4, 6)) rfl) rfl rfl hl.1 rfl (lv_room (Nat.le_of_ble_eq_true rfl)) dL_passes_88 ⟨Nat.le_of_ble_eq_true rfl, Nat.le_of_ble_eq_true rfl⟩) (fun ru_5 u_5 Ju_5 H locs pu_5 hfr I => ?_)
        obtain ⟨hle, hkp⟩ := cut_aft hA hfr
        have fH9 : Ju_5 (aa 0) = some (.inl (G.2.1 4, 20, .inr (.inl (hFp sh si t hF n)))) := (hkp _ (Or.inl rfl)).trans fH
        have fT9 : Ju_5 (aa 1) = some (.inl (G.2.1 0, 12, .inl tF)) := (hkp _ (Or.inr (Or.inl rfl))).trans fT
        have fP9 : Ju_5 (aa 2) = some (.inl (G.2.1 0, 13, .inl pF)) := (hkp _ (Or.inr (Or.inr (Or.inl rfl)))).trans fP
        have fC9 : Ju_5 (aa 3) = some (.inl (G.2.1 0, 3, .inl (upd cF 0 (nI (t + q))))) := (hkp _ (Or.inr (Or.inr (Or.inr (Or.inl rfl))))).trans fC
        have fZ9 : Ju_5 (aa 4) = some (.inl (G.2.1 4, 1, .inr (.inl zF))) := (hkp _ (Or.inr (Or.inr (Or.inr (Or.inr rfl))))).trans fZ
        have fH := fH9
        have fT := fT9
        have fP := fP9
        have fC := fC9
        have fZ := fZ9
        obtain ⟨e2, hD2⟩ := pu_5; have e2 := e2.symm; subst e2
        have hD : isD G (cut aa Ju_5) ad n d d (nI (t + q)) rf (va_up ar 8 (psS (ar 6) (ar 8) (nI t) n)) fm po := isD_le hle hD2
        refine lv_aload_n C.1 C.2.1 dL_passes_91 rfl (lv_at hl 4 rfl) ?_
        refine lv_iconst (v := 0) C.1 C.2.1 dL_passes_92 (by decide) ?_
        refine hv_ialdN (i := 0) C I fC (by decide) (by decide) dL_passes_93 ?_
        refine lv_topi (fun z_6 ez_6 => ?_)
        have ez_6 := ez_6.trans (show _ = nI (t + q) by exact upd_eq)
        subst ez_6
        refine lv_icmp_ne (tgt := 101) C.1 C.2.1 dL_passes_94 (by decide) (fun c94 => ?_) (fun c94 => ?_)
        · exact absurd rfl c94
        · refine lv_iconst (v := 1) C.1 C.2.1 dL_passes_97 (by decide) ?_
          refine lv_goto (tgt := 102) C.1 C.2.1 dL_passes_98 (by decide) ?_
          exact hv_zret (v := 1) C hr I rfl (⟨rfl, inv_mk hD (hN.pass hq1 hq3 rfl) ⟨fH, fT, fP, fC, fZ⟩⟩) dL_passes_102 (Nat.le_of_ble_eq_true rfl) (Nat.le_of_ble_eq_true rfl)
      · have c8 : ¬ (n ≤ i) := fun z => c8 ((nI_leI (a := n) (b := i) (by omega) (by omega)).mpr z)
        have hi8 : i < n := by omega
        have hKi := hK i hi8
        obtain ⟨_, _, q1, q2, q3, q4⟩ := id hKi
        refine lv_aload_n C.1 C.2.1 dL_passes_11 rfl (lv_at hl 3 rfl) ?_
        refine lv_iload C.1 C.2.1 dL_passes_12 (lv_at hl 0 rfl) ?_
        refine hv_laldN (i := i) C I fH (by omega) (by decide) dL_passes_14 ?_
        refine lv_topl (fun z_7 ez_7 => ?_)
        have ez_7 := ez_7.trans (show _ = hF i by exact hFp_at sh si t hF i)
        subst ez_7
        refine lv_bipush (v := 40) C.1 C.2.1 dL_passes_15 (by decide) ?_
        refine lv_bipush (v := 15) C.1 C.2.1 dL_passes_17 (by decide) ?_
        refine hv_ki I (va_runS (As := [.long (hF i), .int 40, .int 15]) (rest := []) C.fix (c_L_part l G h_i _ (hF i) 40 15 (v := nI (si i)) hKi.2.1.2.2.2.2) (va_cwS 3 C.2.2.2.2.1 gL_passes_L_part rfl rfl rfl (by decide +kernel) ⟨Nat.le_of_ble_eq_true rfl, Nat.le_of_ble_eq_true rfl⟩) (hv_preS C I) rfl rfl hl.1 rfl (lv_room (Nat.le_of_ble_eq_true rfl)) dL_passes_19 ⟨Nat.le_of_ble_eq_true rfl, Nat.le_of_ble_eq_true rfl⟩) (fun ru_8 u_8 H locs pu_8 I => ?_)
        obtain ⟨e1, e2⟩ := pu_8; have e1 := e1.symm; subst e1; have e2 := e2.symm; subst e2
        refine lv_istore (lv' := [(5, .int (nI (si i))), (4, .int (nI i)), (0, .ref (ad 0 0)), (1, .int (nI q)), (2, .ref (aa 0)), (3, .ref (aa 3))]) C.1 C.2.1 dL_passes_22 hl (by decide) rfl (fun ls hl => ?_)
        refine lv_aload_n C.1 C.2.1 dL_passes_24 rfl (lv_at hl 4 rfl) ?_
        refine lv_iload C.1 C.2.1 dL_passes_25 (lv_at hl 1 rfl) ?_
        refine lv_aload_n C.1 C.2.1 dL_passes_27 rfl (lv_at hl 4 rfl) ?_
        refine lv_iload C.1 C.2.1 dL_passes_28 (lv_at hl 1 rfl) ?_
        refine hv_laldN (i := i) C I fH (by omega) (by decide) dL_passes_30 ?_
        refine lv_topl (fun z_9 ez_9 => ?_)
        have ez_9 := ez_9.trans (show _ = hF i by exact hFp_at sh si t hF i)
        subst ez_9
        refine lv_bipush (v := 40) C.1 C.2.1 dL_passes_31 (by decide) ?_
        refine lv_bipush (v := 15) C.1 C.2.1 dL_passes_33 (by decide) ?_
        refine lv_aload_n C.1 C.2.1 dL_passes_35 rfl (lv_at hl 4 rfl) ?_
        refine lv_iload C.1 C.2.1 dL_passes_36 (lv_at hl 1 rfl) ?_
        refine hv_laldN (i := i) C I fH (by omega) (by decide) dL_passes_38 ?_
        refine lv_topl (fun z_10 ez_10 => ?_)
        have ez_10 := ez_10.trans (show _ = hF i by exact hFp_at sh si t hF i)
        subst ez_10
        refine lv_iconst (v := 5) C.1 C.2.1 dL_passes_39 (by decide) ?_
        refine lv_bipush (v := 20) C.1 C.2.1 dL_passes_40 (by decide) ?_
        refine hv_ki I (va_runS (As := [.long (hF i), .int 5, .int 20]) (rest := [.int 15, .int 40, .long (hF i), .int (nI i), .ref (aa 0)]) C.fix (c_L_part l G h_i _ (hF i) 5 20 (v := nI (sh i)) hKi.2.1.2.2.1) (va_cwS 3 C.2.2.2.2.1 gL_passes_L_part rfl rfl rfl (by decide +kernel) ⟨Nat.le_of_ble_eq_true rfl, Nat.le_of_ble_eq_true rfl⟩) (hv_preS C I) rfl rfl hl.1 rfl (lv_room (Nat.le_of_ble_eq_true rfl)) dL_passes_42 ⟨Nat.le_of_ble_eq_true rfl, Nat.le_of_ble_eq_true rfl⟩) (fun ru_11 u_11 H locs pu_11 I => ?_)
        obtain ⟨e1, e2⟩ := pu_11; have e1 := e1.symm; subst e1; have e2 := e2.symm; subst e2
        refine lv_ldc C.1 C.2.1 C.2.2.2.1 (C.ts (w := .constant RL 36 (100000)) (by decide +kernel)) dL_passes_45 ?_
        refine lv_icmp_ge (tgt := 54) C.1 C.2.1 dL_passes_47 (by decide) (fun c47 => ?_) (fun c47 => ?_)
        · have c47 : 100000 ≤ sh i := (nI_leI (a := 100000) (b := sh i) (by omega) (by omega)).mp c47
          refine lv_iload C.1 C.2.1 dL_passes_54 (lv_at hl 0 rfl) ?_
          refine lv_if_ne (tgt := 67) C.1 C.2.1 dL_passes_56 (by decide) (fun c56 => ?_) (fun c56 => ?_)
          · have c56 : ¬ (si i = 0) := fun z => c56 ((nI_eq (a := si i) (b := 0) (by omega) (by omega)).mpr z)
            refine lv_iload C.1 C.2.1 dL_passes_67 (lv_at hl 0 rfl) ?_
            refine hv_kl I (va_runS (As := [.long (hF i), .int 40, .int 15, .int (nI (si i))]) (rest := [.int (nI i), .ref (aa 0)]) C.fix (c_L_with l G h_i _ (hF i) 40 15 (nI (si i))) (va_cwS 4 C.2.2.2.2.1 gL_passes_L_with rfl rfl rfl (by decide +kernel) ⟨Nat.le_of_ble_eq_true rfl, Nat.le_of_ble_eq_true rfl⟩) (hv_preS C I) rfl rfl hl.1 rfl (lv_room (Nat.le_of_ble_eq_true rfl)) dL_passes_69 ⟨Nat.le_of_ble_eq_true rfl, Nat.le_of_ble_eq_true rfl⟩) (fun ru_12 u_12 H locs pu_12 I => ?_)
            obtain ⟨e1, e2⟩ := pu_12; have e1 := e1.symm; subst e1; have e2 := e2.symm; subst e2
            refine lv_topl (fun z_13 ez_13 => ?_)
            have ez_13 := ez_13.trans (show _ = wtF (hF i) 40 15 (nI (siN sh si t i)) by rw [show nI (siN sh si t i) = (nI (si i)) from congrArg nI (by unfold siN; rw [if_neg (by omega), if_neg (by omega)])])
            subst ez_13
            refine hv_lastN (i := i) C I fH (by omega) (by decide) dL_passes_72 (fun H locs I => ?_)
            obtain ⟨h_14, eh_14⟩ : ∃ z, z = hv_up h_i (aa 0) (.inl (G.2.1 4, 20, .inr (.inl (vp_updL (hFp sh si t hF i) i (wtF (hF i) 40 15 (nI (siN sh si t i))))))) := ⟨_, rfl⟩
            have I : hv_I G h s h_14 H locs := by rw [eh_14]; exact I
            have hD : isD G (cut aa h_14) ad n d d (nI t) rf ar fm po := by rw [eh_14, cut_up (Or.inl rfl)]; exact hD
            have fH9 : h_14 (aa 0) = some (.inl (G.2.1 4, 20, .inr (.inl (vp_updL (hFp sh si t hF i) i (wtF (hF i) 40 15 (nI (siN sh si t i))))))) := by rw [eh_14]; exact hv_up_eq
            have fT9 : h_14 (aa 1) = some (.inl (G.2.1 0, 12, .inl tF)) := by rw [eh_14, hv_up_ne (hv_neLen fT fH (by decide))]; exact fT
            have fP9 : h_14 (aa 2) = some (.inl (G.2.1 0, 13, .inl pF)) := by rw [eh_14, hv_up_ne (hv_neLen fP fH (by decide))]; exact fP
            have fC9 : h_14 (aa 3) = some (.inl (G.2.1 0, 3, .inl cF)) := by rw [eh_14, hv_up_ne (hv_neLen fC fH (by decide))]; exact fC
            have fZ9 : h_14 (aa 4) = some (.inl (G.2.1 4, 1, .inr (.inl zF))) := by rw [eh_14, hv_up_ne (hv_neLen fZ fH (by decide))]; exact fZ
            have fH := fH9
            have fT := fT9
            have fP := fP9
            have fC := fC9
            have fZ := fZ9
            refine lv_iinc (v := nI (i + 1)) (lv' := [(4, .int (nI (i + 1))), (5, .int (nI (si i))), (0, .ref (ad 0 0)), (1, .int (nI q)), (2, .ref (aa 0)), (3, .ref (aa 3))]) C.1 C.2.1 dL_passes_73 hl (k := 1) rfl (nI_1 i) (by decide) rfl (fun ls hl => ?_)
            refine lv_goto (tgt := 3) C.1 C.2.1 dL_passes_76 (by decide) ?_
            refine W.widen (k := 0) (n := 0) (by omega) (by omega) ?_
            exact loop_ih (i + 1) (by omega) (by omega) h_14 hD (by rw [← hFp_1]; exact fH) fT fP fC fZ  _ _ I ls (lv_sub hl [0, 2, 3, 4, 5] rfl)
          · have c56 : si i = 0 := (nI_eq (a := si i) (b := 0) (by omega) (by omega)).mp c56
            refine lv_aload_n C.1 C.2.1 dL_passes_59 rfl (lv_at hl 5 rfl) ?_
            refine lv_iconst (v := 0) C.1 C.2.1 dL_passes_60 (by decide) ?_
            refine hv_ialdN (i := 0) C I fC (by decide) (by decide) dL_passes_61 ?_
            refine lv_topi (fun z_15 ez_15 => ?_)
            have ez_15 := ez_15.trans (show _ = nI t by exact ec0)
            subst ez_15
            refine lv_iconst (v := 1) C.1 C.2.1 dL_passes_62 (by decide) ?_
            refine lv_iadd C.1 C.2.1 dL_passes_63 ?_
            refine lv_topi (fun z_16 ez_16 => ?_)
            have ez_16 := ez_16.trans (show _ = nI (t + 1) by exact nI_add t 1)
            subst ez_16
            refine lv_goto (tgt := 69) C.1 C.2.1 dL_passes_64 (by decide) ?_
            refine hv_kl I (va_runS (As := [.long (hF i), .int 40, .int 15, .int (nI (t + 1))]) (rest := [.int (nI i), .ref (aa 0)]) C.fix (c_L_with l G h_i _ (hF i) 40 15 (nI (t + 1))) (va_cwS 4 C.2.2.2.2.1 gL_passes_L_with rfl rfl rfl (by decide +kernel) ⟨Nat.le_of_ble_eq_true rfl, Nat.le_of_ble_eq_true rfl⟩) (hv_preS C I) rfl rfl hl.1 rfl (lv_room (Nat.le_of_ble_eq_true rfl)) dL_passes_69 ⟨Nat.le_of_ble_eq_true rfl, Nat.le_of_ble_eq_true rfl⟩) (fun ru_17 u_17 H locs pu_17 I => ?_)
            obtain ⟨e1, e2⟩ := pu_17; have e1 := e1.symm; subst e1; have e2 := e2.symm; subst e2
            refine lv_topl (fun z_18 ez_18 => ?_)
            have ez_18 := ez_18.trans (show _ = wtF (hF i) 40 15 (nI (siN sh si t i)) by rw [show nI (siN sh si t i) = (nI (t + 1)) from congrArg nI (by unfold siN; rw [if_neg (by omega), if_pos (by omega)])])
            subst ez_18
            refine hv_lastN (i := i) C I fH (by omega) (by decide) dL_passes_72 (fun H locs I => ?_)
            obtain ⟨h_19, eh_19⟩ : ∃ z, z = hv_up h_i (aa 0) (.inl (G.2.1 4, 20, .inr (.inl (vp_updL (hFp sh si t hF i) i (wtF (hF i) 40 15 (nI (siN sh si t i))))))) := ⟨_, rfl⟩
            have I : hv_I G h s h_19 H locs := by rw [eh_19]; exact I
            have hD : isD G (cut aa h_19) ad n d d (nI t) rf ar fm po := by rw [eh_19, cut_up (Or.inl rfl)]; exact hD
            have fH9 : h_19 (aa 0) = some (.inl (G.2.1 4, 20, .inr (.inl (vp_updL (hFp sh si t hF i) i (wtF (hF i) 40 15 (nI (siN sh si t i))))))) := by rw [eh_19]; exact hv_up_eq
            have fT9 : h_19 (aa 1) = some (.inl (G.2.1 0, 12, .inl tF)) := by rw [eh_19, hv_up_ne (hv_neLen fT fH (by decide))]; exact fT
            have fP9 : h_19 (aa 2) = some (.inl (G.2.1 0, 13, .inl pF)) := by rw [eh_19, hv_up_ne (hv_neLen fP fH (by decide))]; exact fP
            have fC9 : h_19 (aa 3) = some (.inl (G.2.1 0, 3, .inl cF)) := by rw [eh_19, hv_up_ne (hv_neLen fC fH (by decide))]; exact fC
            have fZ9 : h_19 (aa 4) = some (.inl (G.2.1 4, 1, .inr (.inl zF))) := by rw [eh_19, hv_up_ne (hv_neLen fZ fH (by decide))]; exact fZ
            have fH := fH9
            have fT := fT9
            have fP := fP9
            have fC := fC9
            have fZ := fZ9
            refine lv_iinc (v := nI (i + 1)) (lv' := [(4, .int (nI (i + 1))), (5, .int (nI (si i))), (0, .ref (ad 0 0)), (1, .int (nI q)), (2, .ref (aa 0)), (3, .ref (aa 3))]) C.1 C.2.1 dL_passes_73 hl (k := 1) rfl (nI_1 i) (by decide) rfl (fun ls hl => ?_)
            refine lv_goto (tgt := 3) C.1 C.2.1 dL_passes_76 (by decide) ?_
            refine W.widen (k := 0) (n := 0) (by omega) (by omega) ?_
            exact loop_ih (i + 1) (by omega) (by omega) h_19 hD (by rw [← hFp_1]; exact fH) fT fP fC fZ  _ _ I ls (lv_sub hl [0, 2, 3, 4, 5] rfl)
        · have c47 : ¬ (100000 ≤ sh i) := fun z => c47 ((nI_leI (a := 100000) (b := sh i) (by omega) (by omega)).mpr z)
          refine lv_iconst (v := 0) C.1 C.2.1 dL_passes_50 (by decide) ?_
          refine lv_goto (tgt := 69) C.1 C.2.1 dL_passes_51 (by decide) ?_
          refine hv_kl I (va_runS (As := [.long (hF i), .int 40, .int 15, .int 0]) (rest := [.int (nI i), .ref (aa 0)]) C.fix (c_L_with l G h_i _ (hF i) 40 15 0) (va_cwS 4 C.2.2.2.2.1 gL_passes_L_with rfl rfl rfl (by decide +kernel) ⟨Nat.le_of_ble_eq_true rfl, Nat.le_of_ble_eq_true rfl⟩) (hv_preS C I) rfl rfl hl.1 rfl (lv_room (Nat.le_of_ble_eq_true rfl)) dL_passes_69 ⟨Nat.le_of_ble_eq_true rfl, Nat.le_of_ble_eq_true rfl⟩) (fun ru_20 u_20 H locs pu_20 I => ?_)
          obtain ⟨e1, e2⟩ := pu_20; have e1 := e1.symm; subst e1; have e2 := e2.symm; subst e2
          refine lv_topl (fun z_21 ez_21 => ?_)
          have ez_21 := ez_21.trans (show _ = wtF (hF i) 40 15 (nI (siN sh si t i)) by rw [show nI (siN sh si t i) = 0 from (show nI (siN sh si t i) = nI 0 by unfold siN; rw [if_pos (by omega)])])
          subst ez_21
          refine hv_lastN (i := i) C I fH (by omega) (by decide) dL_passes_72 (fun H locs I => ?_)
          obtain ⟨h_22, eh_22⟩ : ∃ z, z = hv_up h_i (aa 0) (.inl (G.2.1 4, 20, .inr (.inl (vp_updL (hFp sh si t hF i) i (wtF (hF i) 40 15 (nI (siN sh si t i))))))) := ⟨_, rfl⟩
          have I : hv_I G h s h_22 H locs := by rw [eh_22]; exact I
          have hD : isD G (cut aa h_22) ad n d d (nI t) rf ar fm po := by rw [eh_22, cut_up (Or.inl rfl)]; exact hD
          have fH9 : h_22 (aa 0) = some (.inl (G.2.1 4, 20, .inr (.inl (vp_updL (hFp sh si t hF i) i (wtF (hF i) 40 15 (nI (siN sh si t i))))))) := by rw [eh_22]; exact hv_up_eq
          have fT9 : h_22 (aa 1) = some (.inl (G.2.1 0, 12, .inl tF)) := by rw [eh_22, hv_up_ne (hv_neLen fT fH (by decide))]; exact fT
          have fP9 : h_22 (aa 2) = some (.inl (G.2.1 0, 13, .inl pF)) := by rw [eh_22, hv_up_ne (hv_neLen fP fH (by decide))]; exact fP
          have fC9 : h_22 (aa 3) = some (.inl (G.2.1 0, 3, .inl cF)) := by rw [eh_22, hv_up_ne (hv_neLen fC fH (by decide))]; exact fC
          have fZ9 : h_22 (aa 4) = some (.inl (G.2.1 4, 1, .inr (.inl zF))) := by rw [eh_22, hv_up_ne (hv_neLen fZ fH (by decide))]; exact fZ
          have fH := fH9
          have fT := fT9
          have fP := fP9
          have fC := fC9
          have fZ := fZ9
          refine lv_iinc (v := nI (i + 1)) (lv' := [(4, .int (nI (i + 1))), (5, .int (nI (si i))), (0, .ref (ad 0 0)), (1, .int (nI q)), (2, .ref (aa 0)), (3, .ref (aa 3))]) C.1 C.2.1 dL_passes_73 hl (k := 1) rfl (nI_1 i) (by decide) rfl (fun ls hl => ?_)
          refine lv_goto (tgt := 3) C.1 C.2.1 dL_passes_76 (by decide) ?_
          refine W.widen (k := 0) (n := 0) (by omega) (by omega) ?_
          exact loop_ih (i + 1) (by omega) (by omega) h_22 hD (by rw [← hFp_1]; exact fH) fT fP fC fZ  _ _ I ls (lv_sub hl [0, 2, 3, 4, 5] rfl)
  refine W.widen (k := 0) (n := 0) (by omega) (by omega) ?_
  exact loop (n + 1) 0 (Nat.zero_le _) (by omega) h hD (by rw [hFp_0]; exact fH) fT fP fC fZ  _ _ I ls (lv_sub hl [0, 1, 2, 3, 4] rfl)
