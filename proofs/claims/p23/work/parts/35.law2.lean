/-! ===== the law sets parts, pays, asks for refunds ===== -/
theorem add_l0 (x : Int64) : x + (nI 0).toInt64 = x := by
  rw [show (nI 0).toInt64 = 0 by decide]
  simp
set_option maxHeartbeats 4000000 in
set_option maxRecDepth 100000 in
theorem c_L_parts (l : Launch) (G : hv_G) (h : hv) (sz : Nat)  (hlt : l.stackTraces = false) {aa : Nat → Nat} {ad : Nat → Nat → Nat} {n d t : Nat} {rf : Int64} {ar : AR} {fm : Nat → Int32} {po : PO} {hF : Nat → Int64} {tF pF cF : Nat → Int32} {zF : Nat → Int64} {kd ld sh fo si g la : Nat → Nat} (hD : isD G (cut aa h) ad n d d (nI t) rf ar fm po) (hL : LV G aa h hF tF pF cF zF) (hN : Nm n d t ar po rf hF tF pF cF zF kd ld sh fo si g la) {x y : Nat} (hx : x < 2 ^ 30) (hy : y < 2 ^ 30) : hv_Mi l yL_parts wsL_parts 11 400 20 120 G h sz [.ref (ad 0 0), .int (nI x), .int (nI y), .ref (aa 0), .ref (aa 3)] (fun r u => r = 1 ∧ Inv G aa (ad 0 0) u) := by
  obtain ⟨fH, fT, fP, fC, fZ⟩ := id hL
  obtain ⟨⟨bn, bd, bt⟩, ⟨ec0, ec1, ec2, ez0⟩, hK, hS, hR, hZ, hQ, hP⟩ := id hN
  refine hv_enter (y := yL_parts) (avs := [.ref (ad 0 0), .int (nI x), .int (nI y), .ref (aa 0), .ref (aa 3)]) (maxL := 10) (Qf := fun sz => va_Qi (fun r u => r = 1 ∧ Inv G aa (ad 0 0) u) (hv_Bq G h sz) (hv_A h sz)) (by decide) rfl rfl (Nat.le_of_ble_eq_true rfl) ?_
  intro p e s m below meth c hr hnm C I ls hl
  have hl : lv_has ls 10 [(0, .ref (ad 0 0)), (1, .int (nI x)), (2, .int (nI y)), (3, .ref (aa 0)), (4, .ref (aa 3))] := hl
  refine lv_iconst (v := (-1)) C.1 C.2.1 dL_parts_0 (by decide) ?_
  refine lv_istore (lv' := [(5, .int (-1)), (0, .ref (ad 0 0)), (1, .int (nI x)), (2, .int (nI y)), (3, .ref (aa 0)), (4, .ref (aa 3))]) C.1 C.2.1 dL_parts_1 hl (by decide) rfl (fun ls hl => ?_)
  refine lv_iconst (v := (-1)) C.1 C.2.1 dL_parts_3 (by decide) ?_
  refine lv_istore (lv' := [(6, .int (-1)), (5, .int (-1)), (0, .ref (ad 0 0)), (1, .int (nI x)), (2, .int (nI y)), (3, .ref (aa 0)), (4, .ref (aa 3))]) C.1 C.2.1 dL_parts_4 hl (by decide) rfl (fun ls hl => ?_)
  refine lv_iconst (v := 0) C.1 C.2.1 dL_parts_6 (by decide) ?_
  refine lv_istore (lv' := [(7, .int 0), (6, .int (-1)), (5, .int (-1)), (0, .ref (ad 0 0)), (1, .int (nI x)), (2, .int (nI y)), (3, .ref (aa 0)), (4, .ref (aa 3))]) C.1 C.2.1 dL_parts_7 hl (by decide) rfl (fun ls hl => ?_)
  have loop : ∀ (k9 i : Nat), i ≤ n → n + 1 ≤ i + k9 → ∀ (v5 : Int32) (v6 : Int32), (v5 = -1 ∨ ∃ a, a < n ∧ kd a = 2 ∧ v5 = nI a) → (v6 = -1 ∨ ∃ a, a < n ∧ kd a < 2 ∧ v6 = nI a) → ∀ (H : Heap) (locs : List Loc), hv_I G h s h H locs → ∀ ls : Array Slot, lv_has ls 10 [(7, .int (nI i)), (6, .int v6), (5, .int v5), (0, .ref (ad 0 0)), (1, .int (nI x)), (2, .int (nI y)), (3, .ref (aa 0)), (4, .ref (aa 3))] → W p l e (hv_rm 11 20 120 400) s m (([.ref (ad 0 0), .int (nI x), .int (nI y), .ref (aa 0), .ref (aa 3)] : List Value).toArray) below meth c H locs 0 0 (MQ below (va_Qi (fun r u => r = 1 ∧ Inv G aa (ad 0 0) u) (hv_Bq G h s.heap.size) (hv_A h s.heap.size)) (([.ref (ad 0 0), .int (nI x), .int (nI y), .ref (aa 0), .ref (aa 3)] : List Value).toArray) s 20 120 (hv_A h s.heap.size)) (F0 m 9 ls []) := by
    intro k9
    induction k9 with
    | zero => intro i hi hin; exact absurd hin (by omega)
    | succ k9 loop_ih =>
      intro i hi hin v5 v6 P5 P6 H locs I ls hl
      refine lv_iload C.1 C.2.1 dL_parts_9 (lv_at hl 0 rfl) ?_
      refine lv_aload C.1 C.2.1 dL_parts_11 (lv_at hl 7 rfl) ?_
      refine lv_iconst (v := 1) C.1 C.2.1 dL_parts_13 (by decide) ?_
      refine hv_ialdN (i := 1) C I fC (by decide) (by decide) dL_parts_14 ?_
      refine lv_topi (fun z_1 ez_1 => ?_)
      have ez_1 := ez_1.trans (show _ = nI n by exact ec1)
      subst ez_1
      refine lv_icmp_ge (tgt := 79) C.1 C.2.1 dL_parts_15 (by decide) (fun c15 => ?_) (fun c15 => ?_)
      · have c15 : n ≤ i := (nI_leI (a := n) (b := i) (by omega) (by omega)).mp c15
        rcases P5 with e5 | ⟨a, ha1, ha2, e5⟩
        · subst e5
          refine lv_iload C.1 C.2.1 dL_parts_79 (lv_at hl 2 rfl) ?_
          refine lv_if_lt (tgt := 89) C.1 C.2.1 dL_parts_81 (by decide) (fun c81 => ?_) (fun c81 => ?_)
          · refine lv_iconst (v := 1) C.1 C.2.1 dL_parts_89 (by decide) ?_
            exact hv_zret (v := 1) C hr I rfl (⟨rfl, inv_mk hD hN hL⟩) dL_parts_90 (Nat.le_of_ble_eq_true rfl) (Nat.le_of_ble_eq_true rfl)
          · exact absurd (by decide) c81
        · subst e5
          rcases P6 with e6 | ⟨b, hb1, hb2, e6⟩
          · subst e6
            refine lv_iload C.1 C.2.1 dL_parts_79 (lv_at hl 2 rfl) ?_
            refine lv_if_lt (tgt := 89) C.1 C.2.1 dL_parts_81 (by decide) (fun c81 => ?_) (fun c81 => ?_)
            · have c81 : a < 0 := (nI_ltI (a := a) (b := 0) (by omega) (by omega)).mp c81
              exfalso
              omega
            · have c81 : ¬ (a < 0) := fun z => c81 ((nI_ltI (a := a) (b := 0) (by omega) (by omega)).mpr z)
              refine lv_iload C.1 C.2.1 dL_parts_84 (lv_at hl 1 rfl) ?_
              refine lv_if_ge (tgt := 91) C.1 C.2.1 dL_parts_86 (by decide) (fun c86 => ?_) (fun c86 => ?_)
              · exact absurd c86 (by decide)
              · refine lv_iconst (v := 1) C.1 C.2.1 dL_parts_89 (by decide) ?_
                exact hv_zret (v := 1) C hr I rfl (⟨rfl, inv_mk hD hN hL⟩) dL_parts_90 (Nat.le_of_ble_eq_true rfl) (Nat.le_of_ble_eq_true rfl)
          · subst e6
            have hKa := hK a ha1
            have hKb := hK b hb1
            obtain ⟨QQ, hQ1, hQ2, _⟩ := hQ a b (by omega) (by omega)
            have h2a : ar 4 a = 2 := by rw [hKa.1.1, ha2]; rfl
            have h2b : ¬ ar 4 b = 2 := fun z => by
              rw [hKb.1.1] at z
              have := (nI_eq (a := kd b) (b := 2) (by omega) (by decide)).mp z
              omega
            refine lv_iload C.1 C.2.1 dL_parts_79 (lv_at hl 2 rfl) ?_
            refine lv_if_lt (tgt := 89) C.1 C.2.1 dL_parts_81 (by decide) (fun c81 => ?_) (fun c81 => ?_)
            · have c81 : a < 0 := (nI_ltI (a := a) (b := 0) (by omega) (by omega)).mp c81
              exfalso
              omega
            · have c81 : ¬ (a < 0) := fun z => c81 ((nI_ltI (a := a) (b := 0) (by omega) (by omega)).mpr z)
              refine lv_iload C.1 C.2.1 dL_parts_84 (lv_at hl 1 rfl) ?_
              refine lv_if_ge (tgt := 91) C.1 C.2.1 dL_parts_86 (by decide) (fun c86 => ?_) (fun c86 => ?_)
              · have c86 : 0 ≤ b := (nI_leI (a := 0) (b := b) (by omega) (by omega)).mp c86
                refine lv_iload_n C.1 C.2.1 dL_parts_91 rfl (lv_at hl 5 rfl) ?_
                refine lv_iconst (v := 3) C.1 C.2.1 dL_parts_92 (by decide) ?_
                refine lv_irem C.1 C.2.1 dL_parts_93 (by decide) ?_
                refine lv_topi (fun z_2 ez_2 => ?_)
                have ez_2 := ez_2.trans (show _ = nI (y % 3) by exact pk_rem (a := y) (d := 3) (by omega) (by decide) (by decide))
                subst ez_2
                refine lv_if_ne (tgt := 101) C.1 C.2.1 dL_parts_94 (by decide) (fun c94 => ?_) (fun c94 => ?_)
                · have c94 : ¬ (y % 3 = 0) := fun z => c94 ((nI_eq (a := y % 3) (b := 0) (by omega) (by omega)).mpr z)
                  refine lv_iload_n C.1 C.2.1 dL_parts_101 rfl (lv_at hl 5 rfl) ?_
                  refine lv_iconst (v := 3) C.1 C.2.1 dL_parts_102 (by decide) ?_
                  refine lv_idiv C.1 C.2.1 dL_parts_103 (by decide) ?_
                  refine lv_topi (fun z_3 ez_3 => ?_)
                  have ez_3 := ez_3.trans (show _ = nI (y / 3) by exact pk_div (a := y) (d := 3) (by omega) (by decide) (by decide))
                  subst ez_3
                  refine lv_bipush (v := 101) C.1 C.2.1 dL_parts_104 (by decide) ?_
                  refine lv_irem C.1 C.2.1 dL_parts_106 (by decide) ?_
                  refine lv_topi (fun z_4 ez_4 => ?_)
                  have ez_4 := ez_4.trans (show _ = nI ((y / 3) % 101) by exact pk_rem (a := y / 3) (d := 101) (by omega) (by decide) (by decide))
                  subst ez_4
                  refine lv_istore (lv' := [(7, .int (nI ((y / 3) % 101))), (6, .int (nI b)), (5, .int (nI a)), (0, .ref (ad 0 0)), (1, .int (nI x)), (2, .int (nI y)), (3, .ref (aa 0)), (4, .ref (aa 3))]) C.1 C.2.1 dL_parts_107 hl (by decide) rfl (fun ls hl => ?_)
                  refine lv_aload C.1 C.2.1 dL_parts_109 (lv_at hl 7 rfl) ?_
                  refine lv_iconst (v := 2) C.1 C.2.1 dL_parts_111 (by decide) ?_
                  refine hv_ialdN (i := 2) C I fC (by decide) (by decide) dL_parts_112 ?_
                  refine lv_topi (fun z_5 ez_5 => ?_)
                  have ez_5 := ez_5.trans (show _ = nI d by exact ec2)
                  subst ez_5
                  refine lv_if_ne (tgt := 120) C.1 C.2.1 dL_parts_113 (by decide) (fun c113 => ?_) (fun c113 => ?_)
                  · have c113 : ¬ (d = 0) := fun z => c113 ((nI_eq (a := d) (b := 0) (by omega) (by omega)).mpr z)
                    refine lv_aload_n C.1 C.2.1 dL_parts_120 rfl (lv_at hl 3 rfl) ?_
                    refine lv_aload C.1 C.2.1 dL_parts_121 (lv_at hl 7 rfl) ?_
                    refine lv_iconst (v := 2) C.1 C.2.1 dL_parts_123 (by decide) ?_
                    refine hv_ialdN (i := 2) C I fC (by decide) (by decide) dL_parts_124 ?_
                    refine lv_topi (fun z_6 ez_6 => ?_)
                    have ez_6 := ez_6.trans (show _ = nI d by exact ec2)
                    subst ez_6
                    refine lv_iconst (v := 1) C.1 C.2.1 dL_parts_125 (by decide) ?_
                    refine lv_isub C.1 C.2.1 dL_parts_126 ?_
                    refine lv_topi (fun z_7 ez_7 => ?_)
                    have ez_7 := ez_7.trans (show _ = nI (d - 1) by exact pk_sub (a := d) (b := 1) (by omega))
                    subst ez_7
                    refine lv_iload C.1 C.2.1 dL_parts_127 (lv_at hl 2 rfl) ?_
                    obtain ⟨HH, DD, AA, w1, w2, w3, w4, w5, w6⟩ := hN.at (D := d - 1) (j := a) (by omega) ha1
                    refine hv_ki I (va_runV (As := [.int (nI (d - 1)), .int (nI a)]) (rest := []) C.fix (k_due l hlt G h _ (isD_le (cut_le aa h) hD) bn (Nat.le_refl _) (by omega) hP.2.1 (by omega) ha1 (v := nI DD) w2) (cwV 2 C.2.2.2.2.1 gL_parts_X4_due rfl rfl rfl (by decide +kernel) ⟨Nat.le_of_ble_eq_true rfl, Nat.le_of_ble_eq_true rfl⟩) (hv_preV C I (isD_0 (isD_le (cut_le aa h) hD)) (r := (RX4, TX4, 6)) rfl) rfl rfl hl.1 rfl (lv_room (Nat.le_of_ble_eq_true rfl)) dL_parts_129 ⟨Nat.le_of_ble_eq_true rfl, Nat.le_of_ble_eq_true rfl⟩) (fun ru_8 u_8 H locs pu_8 I => ?_)
                    obtain ⟨e1, e2⟩ := pu_8; have e1 := e1.symm; subst e1; have e2 := e2.symm; subst e2
                    refine lv_istore (lv' := [(8, .int (nI DD)), (7, .int (nI ((y / 3) % 101))), (6, .int (nI b)), (5, .int (nI a)), (0, .ref (ad 0 0)), (1, .int (nI x)), (2, .int (nI y)), (3, .ref (aa 0)), (4, .ref (aa 3))]) C.1 C.2.1 dL_parts_132 hl (by decide) rfl (fun ls hl => ?_)
                    refine lv_aload_n C.1 C.2.1 dL_parts_134 rfl (lv_at hl 4 rfl) ?_
                    refine lv_iload C.1 C.2.1 dL_parts_135 (lv_at hl 3 rfl) ?_
                    refine lv_iload C.1 C.2.1 dL_parts_137 (lv_at hl 2 rfl) ?_
                    refine lv_iload C.1 C.2.1 dL_parts_139 (lv_at hl 1 rfl) ?_
                    have hA : lvA aa h := LV.A (G := G) ⟨fH, fT, fP, fC, fZ⟩
                    refine hv_ski I (cut_le aa h) (va_runV (As := [.int (nI a), .int (nI b), .int (nI ((y / 3) % 101))]) (rest := []) C.fix (k_setParts l hlt G (cut aa h) _ hD bn ha1 hb1 h2a h2b (q := (y / 3) % 101) (by omega) (v := nI QQ) hQ2) (cwV 3 C.2.2.2.2.1 gL_parts_X4_setParts rfl rfl rfl (by decide +kernel) ⟨Nat.le_of_ble_eq_true rfl, Nat.le_of_ble_eq_true rfl⟩) (hv_preV C (I.sub (cut_le aa h)) (isD_0 hD) (r := (RX4, TX4, 6)) rfl) rfl rfl hl.1 rfl (lv_room (Nat.le_of_ble_eq_true rfl)) dL_parts_141 ⟨Nat.le_of_ble_eq_true rfl, Nat.le_of_ble_eq_true rfl⟩) (fun ru_9 u_9 Ju_9 H locs pu_9 hfr I => ?_)
                    obtain ⟨hle, hkp⟩ := cut_aft hA hfr
                    have fH9 : Ju_9 (aa 0) = some (.inl (G.2.1 4, 20, .inr (.inl hF))) := (hkp _ (Or.inl rfl)).trans fH
                    have fT9 : Ju_9 (aa 1) = some (.inl (G.2.1 0, 12, .inl tF)) := (hkp _ (Or.inr (Or.inl rfl))).trans fT
                    have fP9 : Ju_9 (aa 2) = some (.inl (G.2.1 0, 13, .inl pF)) := (hkp _ (Or.inr (Or.inr (Or.inl rfl)))).trans fP
                    have fC9 : Ju_9 (aa 3) = some (.inl (G.2.1 0, 3, .inl cF)) := (hkp _ (Or.inr (Or.inr (Or.inr (Or.inl rfl))))).trans fC
                    have fZ9 : Ju_9 (aa 4) = some (.inl (G.2.1 4, 1, .inr (.inl zF))) := (hkp _ (Or.inr (Or.inr (Or.inr (Or.inr rfl))))).trans fZ
                    have fH := fH9
                    have fT := fT9
                    have fP := fP9
                    have fC := fC9
                    have fZ := fZ9
                    obtain ⟨e2, hD2⟩ := pu_9; have e2 := e2.symm; subst e2
                    obtain ⟨ar1, har1⟩ : ∃ z, z = va_up ar 9 (upd (ar 9) (20 * a + b) (nI ((y / 3) % 101))) := ⟨_, rfl⟩
                    rw [← har1] at hD2
                    have hD : isD G (cut aa Ju_9) ad n d d (nI t) rf ar1 fm po := isD_le hle hD2
                    have hNar1 : Nm n d t ar1 po rf hF tF pF cF zF kd ld sh fo si g la := by rw [har1]; exact hN.parts ha1 hb1 (by omega)
                    refine lv_istore (lv' := [(9, .int (nI QQ)), (8, .int (nI DD)), (7, .int (nI ((y / 3) % 101))), (6, .int (nI b)), (5, .int (nI a)), (0, .ref (ad 0 0)), (1, .int (nI x)), (2, .int (nI y)), (3, .ref (aa 0)), (4, .ref (aa 3))]) C.1 C.2.1 dL_parts_144 hl (by decide) rfl (fun ls hl => ?_)
                    refine lv_iload C.1 C.2.1 dL_parts_146 (lv_at hl 0 rfl) ?_
                    refine lv_if_lt (tgt := 201) C.1 C.2.1 dL_parts_148 (by decide) (fun c148 => ?_) (fun c148 => ?_)
                    · have c148 : QQ < 0 := (nI_ltI (a := QQ) (b := 0) (by omega) (by omega)).mp c148
                      exfalso
                      omega
                    · have c148 : ¬ (QQ < 0) := fun z => c148 ((nI_ltI (a := QQ) (b := 0) (by omega) (by omega)).mpr z)
                      refine lv_iload C.1 C.2.1 dL_parts_151 (lv_at hl 0 rfl) ?_
                      refine lv_bipush (v := 100) C.1 C.2.1 dL_parts_153 (by decide) ?_
                      refine lv_icmp_gt (tgt := 201) C.1 C.2.1 dL_parts_155 (by decide) (fun c155 => ?_) (fun c155 => ?_)
                      · have c155 : 100 < QQ := (nI_ltI (a := 100) (b := QQ) (by omega) (by omega)).mp c155
                        exfalso
                        omega
                      · have c155 : ¬ (100 < QQ) := fun z => c155 ((nI_ltI (a := 100) (b := QQ) (by omega) (by omega)).mpr z)
                        refine lv_aload_n C.1 C.2.1 dL_parts_158 rfl (lv_at hl 5 rfl) ?_
                        refine lv_iload C.1 C.2.1 dL_parts_159 (lv_at hl 4 rfl) ?_
                        refine lv_iload C.1 C.2.1 dL_parts_161 (lv_at hl 3 rfl) ?_
                        refine lv_iload C.1 C.2.1 dL_parts_163 (lv_at hl 2 rfl) ?_
                        have hA : lvA aa Ju_9 := LV.A (G := G) ⟨fH, fT, fP, fC, fZ⟩
                        refine hv_ski I (cut_le aa Ju_9) (va_runV (As := [.int (nI a), .int (nI b), .int (nI ((y / 3) % 101))]) (rest := []) C.fix (k_setParts l hlt G (cut aa Ju_9) _ hD bn ha1 hb1 (by rw [har1]; exact h2a) (by rw [har1]; exact h2b) (q := (y / 3) % 101) (by omega) (v := nI ((y / 3) % 101)) (by rw [har1]; exact upd_eq)) (cwV 3 C.2.2.2.2.1 gL_parts_X4_setParts rfl rfl rfl (by decide +kernel) ⟨Nat.le_of_ble_eq_true rfl, Nat.le_of_ble_eq_true rfl⟩) (hv_preV C (I.sub (cut_le aa Ju_9)) (isD_0 hD) (r := (RX4, TX4, 6)) rfl) rfl rfl hl.1 rfl (lv_room (Nat.le_of_ble_eq_true rfl)) dL_parts_165 ⟨Nat.le_of_ble_eq_true rfl, Nat.le_of_ble_eq_true rfl⟩) (fun ru_10 u_10 Ju_10 H locs pu_10 hfr I => ?_)
                        obtain ⟨hle, hkp⟩ := cut_aft hA hfr
                        have fH9 : Ju_10 (aa 0) = some (.inl (G.2.1 4, 20, .inr (.inl hF))) := (hkp _ (Or.inl rfl)).trans fH
                        have fT9 : Ju_10 (aa 1) = some (.inl (G.2.1 0, 12, .inl tF)) := (hkp _ (Or.inr (Or.inl rfl))).trans fT
                        have fP9 : Ju_10 (aa 2) = some (.inl (G.2.1 0, 13, .inl pF)) := (hkp _ (Or.inr (Or.inr (Or.inl rfl)))).trans fP
                        have fC9 : Ju_10 (aa 3) = some (.inl (G.2.1 0, 3, .inl cF)) := (hkp _ (Or.inr (Or.inr (Or.inr (Or.inl rfl))))).trans fC
                        have fZ9 : Ju_10 (aa 4) = some (.inl (G.2.1 4, 1, .inr (.inl zF))) := (hkp _ (Or.inr (Or.inr (Or.inr (Or.inr rfl))))).trans fZ
                        have fH := fH9
                        have fT := fT9
                        have fP := fP9
                        have fC := fC9
                        have fZ := fZ9
                        obtain ⟨e2, hD2⟩ := pu_10; have e2 := e2.symm; subst e2
                        obtain ⟨ar2, har2⟩ : ∃ z, z = va_up ar1 9 (upd (ar1 9) (20 * a + b) (nI ((y / 3) % 101))) := ⟨_, rfl⟩
                        rw [← har2] at hD2
                        have hD : isD G (cut aa Ju_10) ad n d d (nI t) rf ar2 fm po := isD_le hle hD2
                        have hNar2 : Nm n d t ar2 po rf hF tF pF cF zF kd ld sh fo si g la := by rw [har2]; exact hNar1.parts ha1 hb1 (by omega)
                        refine lv_iload C.1 C.2.1 dL_parts_168 (lv_at hl 2 rfl) ?_
                        refine lv_icmp_ne (tgt := 201) C.1 C.2.1 dL_parts_170 (by decide) (fun c170 => ?_) (fun c170 => ?_)
                        · exact absurd rfl c170
                        · refine lv_aload C.1 C.2.1 dL_parts_173 (lv_at hl 9 rfl) ?_
                          refine lv_iconst (v := 2) C.1 C.2.1 dL_parts_175 (by decide) ?_
                          refine hv_ialdN (i := 2) C I fC (by decide) (by decide) dL_parts_176 ?_
                          refine lv_topi (fun z_11 ez_11 => ?_)
                          have ez_11 := ez_11.trans (show _ = nI d by exact ec2)
                          subst ez_11
                          refine lv_if_eq (tgt := 197) C.1 C.2.1 dL_parts_177 (by decide) (fun c177 => ?_) (fun c177 => ?_)
                          · have c177 : d = 0 := (nI_eq (a := d) (b := 0) (by omega) (by omega)).mp c177
                            exfalso
                            omega
                          · have c177 : ¬ (d = 0) := fun z => c177 ((nI_eq (a := d) (b := 0) (by omega) (by omega)).mpr z)
                            refine lv_aload_n C.1 C.2.1 dL_parts_180 rfl (lv_at hl 5 rfl) ?_
                            refine lv_aload C.1 C.2.1 dL_parts_181 (lv_at hl 9 rfl) ?_
                            refine lv_iconst (v := 2) C.1 C.2.1 dL_parts_183 (by decide) ?_
                            refine hv_ialdN (i := 2) C I fC (by decide) (by decide) dL_parts_184 ?_
                            refine lv_topi (fun z_12 ez_12 => ?_)
                            have ez_12 := ez_12.trans (show _ = nI d by exact ec2)
                            subst ez_12
                            refine lv_iconst (v := 1) C.1 C.2.1 dL_parts_185 (by decide) ?_
                            refine lv_isub C.1 C.2.1 dL_parts_186 ?_
                            refine lv_topi (fun z_13 ez_13 => ?_)
                            have ez_13 := ez_13.trans (show _ = nI (d - 1) by exact pk_sub (a := d) (b := 1) (by omega))
                            subst ez_13
                            refine lv_iload C.1 C.2.1 dL_parts_187 (lv_at hl 4 rfl) ?_
                            refine hv_ki I (va_runV (As := [.int (nI (d - 1)), .int (nI a)]) (rest := []) C.fix (k_due l hlt G Ju_10 _ (isD_le (cut_le aa Ju_10) hD) bn (Nat.le_refl _) (by omega) hP.2.1 (by omega) ha1 (v := nI DD) (by rw [har2, har1]; exact w2)) (cwV 2 C.2.2.2.2.1 gL_parts_X4_due rfl rfl rfl (by decide +kernel) ⟨Nat.le_of_ble_eq_true rfl, Nat.le_of_ble_eq_true rfl⟩) (hv_preV C I (isD_0 (isD_le (cut_le aa Ju_10) hD)) (r := (RX4, TX4, 6)) rfl) rfl rfl hl.1 rfl (lv_room (Nat.le_of_ble_eq_true rfl)) dL_parts_189 ⟨Nat.le_of_ble_eq_true rfl, Nat.le_of_ble_eq_true rfl⟩) (fun ru_14 u_14 H locs pu_14 I => ?_)
                            obtain ⟨e1, e2⟩ := pu_14; have e1 := e1.symm; subst e1; have e2 := e2.symm; subst e2
                            refine lv_iload C.1 C.2.1 dL_parts_192 (lv_at hl 1 rfl) ?_
                            refine lv_icmp_ne (tgt := 201) C.1 C.2.1 dL_parts_194 (by decide) (fun c194 => ?_) (fun c194 => ?_)
                            · exact absurd rfl c194
                            · refine lv_iconst (v := 1) C.1 C.2.1 dL_parts_197 (by decide) ?_
                              refine lv_goto (tgt := 202) C.1 C.2.1 dL_parts_198 (by decide) ?_
                              exact hv_zret (v := 1) C hr I rfl (⟨rfl, inv_mk hD hNar2 ⟨fH, fT, fP, fC, fZ⟩⟩) dL_parts_202 (Nat.le_of_ble_eq_true rfl) (Nat.le_of_ble_eq_true rfl)
                  · have c113 : d = 0 := (nI_eq (a := d) (b := 0) (by omega) (by omega)).mp c113
                    refine lv_iconst (v := 0) C.1 C.2.1 dL_parts_116 (by decide) ?_
                    refine lv_goto (tgt := 132) C.1 C.2.1 dL_parts_117 (by decide) ?_
                    refine lv_istore (lv' := [(8, .int 0), (7, .int (nI ((y / 3) % 101))), (6, .int (nI b)), (5, .int (nI a)), (0, .ref (ad 0 0)), (1, .int (nI x)), (2, .int (nI y)), (3, .ref (aa 0)), (4, .ref (aa 3))]) C.1 C.2.1 dL_parts_132 hl (by decide) rfl (fun ls hl => ?_)
                    refine lv_aload_n C.1 C.2.1 dL_parts_134 rfl (lv_at hl 4 rfl) ?_
                    refine lv_iload C.1 C.2.1 dL_parts_135 (lv_at hl 3 rfl) ?_
                    refine lv_iload C.1 C.2.1 dL_parts_137 (lv_at hl 2 rfl) ?_
                    refine lv_iload C.1 C.2.1 dL_parts_139 (lv_at hl 1 rfl) ?_
                    have hA : lvA aa h := LV.A (G := G) ⟨fH, fT, fP, fC, fZ⟩
                    refine hv_ski I (cut_le aa h) (va_runV (As := [.int (nI a), .int (nI b), .int (nI ((y / 3) % 101))]) (rest := []) C.fix (k_setParts l hlt G (cut aa h) _ hD bn ha1 hb1 h2a h2b (q := (y / 3) % 101) (by omega) (v := nI QQ) hQ2) (cwV 3 C.2.2.2.2.1 gL_parts_X4_setParts rfl rfl rfl (by decide +kernel) ⟨Nat.le_of_ble_eq_true rfl, Nat.le_of_ble_eq_true rfl⟩) (hv_preV C (I.sub (cut_le aa h)) (isD_0 hD) (r := (RX4, TX4, 6)) rfl) rfl rfl hl.1 rfl (lv_room (Nat.le_of_ble_eq_true rfl)) dL_parts_141 ⟨Nat.le_of_ble_eq_true rfl, Nat.le_of_ble_eq_true rfl⟩) (fun ru_15 u_15 Ju_15 H locs pu_15 hfr I => ?_)
                    obtain ⟨hle, hkp⟩ := cut_aft hA hfr
                    have fH9 : Ju_15 (aa 0) = some (.inl (G.2.1 4, 20, .inr (.inl hF))) := (hkp _ (Or.inl rfl)).trans fH
                    have fT9 : Ju_15 (aa 1) = some (.inl (G.2.1 0, 12, .inl tF)) := (hkp _ (Or.inr (Or.inl rfl))).trans fT
                    have fP9 : Ju_15 (aa 2) = some (.inl (G.2.1 0, 13, .inl pF)) := (hkp _ (Or.inr (Or.inr (Or.inl rfl)))).trans fP
                    have fC9 : Ju_15 (aa 3) = some (.inl (G.2.1 0, 3, .inl cF)) := (hkp _ (Or.inr (Or.inr (Or.inr (Or.inl rfl))))).trans fC
                    have fZ9 : Ju_15 (aa 4) = some (.inl (G.2.1 4, 1, .inr (.inl zF))) := (hkp _ (Or.inr (Or.inr (Or.inr (Or.inr rfl))))).trans fZ
                    have fH := fH9
                    have fT := fT9
                    have fP := fP9
                    have fC := fC9
                    have fZ := fZ9
                    obtain ⟨e2, hD2⟩ := pu_15; have e2 := e2.symm; subst e2
                    obtain ⟨ar1, har1⟩ : ∃ z, z = va_up ar 9 (upd (ar 9) (20 * a + b) (nI ((y / 3) % 101))) := ⟨_, rfl⟩
                    rw [← har1] at hD2
                    have hD : isD G (cut aa Ju_15) ad n d d (nI t) rf ar1 fm po := isD_le hle hD2
                    have hNar1 : Nm n d t ar1 po rf hF tF pF cF zF kd ld sh fo si g la := by rw [har1]; exact hN.parts ha1 hb1 (by omega)
                    refine lv_istore (lv' := [(9, .int (nI QQ)), (8, .int 0), (7, .int (nI ((y / 3) % 101))), (6, .int (nI b)), (5, .int (nI a)), (0, .ref (ad 0 0)), (1, .int (nI x)), (2, .int (nI y)), (3, .ref (aa 0)), (4, .ref (aa 3))]) C.1 C.2.1 dL_parts_144 hl (by decide) rfl (fun ls hl => ?_)
                    refine lv_iload C.1 C.2.1 dL_parts_146 (lv_at hl 0 rfl) ?_
                    refine lv_if_lt (tgt := 201) C.1 C.2.1 dL_parts_148 (by decide) (fun c148 => ?_) (fun c148 => ?_)
                    · have c148 : QQ < 0 := (nI_ltI (a := QQ) (b := 0) (by omega) (by omega)).mp c148
                      exfalso
                      omega
                    · have c148 : ¬ (QQ < 0) := fun z => c148 ((nI_ltI (a := QQ) (b := 0) (by omega) (by omega)).mpr z)
                      refine lv_iload C.1 C.2.1 dL_parts_151 (lv_at hl 0 rfl) ?_
                      refine lv_bipush (v := 100) C.1 C.2.1 dL_parts_153 (by decide) ?_
                      refine lv_icmp_gt (tgt := 201) C.1 C.2.1 dL_parts_155 (by decide) (fun c155 => ?_) (fun c155 => ?_)
                      · have c155 : 100 < QQ := (nI_ltI (a := 100) (b := QQ) (by omega) (by omega)).mp c155
                        exfalso
                        omega
                      · have c155 : ¬ (100 < QQ) := fun z => c155 ((nI_ltI (a := 100) (b := QQ) (by omega) (by omega)).mpr z)
                        refine lv_aload_n C.1 C.2.1 dL_parts_158 rfl (lv_at hl 5 rfl) ?_
                        refine lv_iload C.1 C.2.1 dL_parts_159 (lv_at hl 4 rfl) ?_
                        refine lv_iload C.1 C.2.1 dL_parts_161 (lv_at hl 3 rfl) ?_
                        refine lv_iload C.1 C.2.1 dL_parts_163 (lv_at hl 2 rfl) ?_
                        have hA : lvA aa Ju_15 := LV.A (G := G) ⟨fH, fT, fP, fC, fZ⟩
                        refine hv_ski I (cut_le aa Ju_15) (va_runV (As := [.int (nI a), .int (nI b), .int (nI ((y / 3) % 101))]) (rest := []) C.fix (k_setParts l hlt G (cut aa Ju_15) _ hD bn ha1 hb1 (by rw [har1]; exact h2a) (by rw [har1]; exact h2b) (q := (y / 3) % 101) (by omega) (v := nI ((y / 3) % 101)) (by rw [har1]; exact upd_eq)) (cwV 3 C.2.2.2.2.1 gL_parts_X4_setParts rfl rfl rfl (by decide +kernel) ⟨Nat.le_of_ble_eq_true rfl, Nat.le_of_ble_eq_true rfl⟩) (hv_preV C (I.sub (cut_le aa Ju_15)) (isD_0 hD) (r := (RX4, TX4, 6)) rfl) rfl rfl hl.1 rfl (lv_room (Nat.le_of_ble_eq_true rfl)) dL_parts_165 ⟨Nat.le_of_ble_eq_true rfl, Nat.le_of_ble_eq_true rfl⟩) (fun ru_16 u_16 Ju_16 H locs pu_16 hfr I => ?_)
                        obtain ⟨hle, hkp⟩ := cut_aft hA hfr
                        have fH9 : Ju_16 (aa 0) = some (.inl (G.2.1 4, 20, .inr (.inl hF))) := (hkp _ (Or.inl rfl)).trans fH
                        have fT9 : Ju_16 (aa 1) = some (.inl (G.2.1 0, 12, .inl tF)) := (hkp _ (Or.inr (Or.inl rfl))).trans fT
                        have fP9 : Ju_16 (aa 2) = some (.inl (G.2.1 0, 13, .inl pF)) := (hkp _ (Or.inr (Or.inr (Or.inl rfl)))).trans fP
                        have fC9 : Ju_16 (aa 3) = some (.inl (G.2.1 0, 3, .inl cF)) := (hkp _ (Or.inr (Or.inr (Or.inr (Or.inl rfl))))).trans fC
                        have fZ9 : Ju_16 (aa 4) = some (.inl (G.2.1 4, 1, .inr (.inl zF))) := (hkp _ (Or.inr (Or.inr (Or.inr (Or.inr rfl))))).trans fZ
                        have fH := fH9
                        have fT := fT9
                        have fP := fP9
                        have fC := fC9
                        have fZ := fZ9
                        obtain ⟨e2, hD2⟩ := pu_16; have e2 := e2.symm; subst e2
                        obtain ⟨ar2, har2⟩ : ∃ z, z = va_up ar1 9 (upd (ar1 9) (20 * a + b) (nI ((y / 3) % 101))) := ⟨_, rfl⟩
                        rw [← har2] at hD2
                        have hD : isD G (cut aa Ju_16) ad n d d (nI t) rf ar2 fm po := isD_le hle hD2
                        have hNar2 : Nm n d t ar2 po rf hF tF pF cF zF kd ld sh fo si g la := by rw [har2]; exact hNar1.parts ha1 hb1 (by omega)
                        refine lv_iload C.1 C.2.1 dL_parts_168 (lv_at hl 2 rfl) ?_
                        refine lv_icmp_ne (tgt := 201) C.1 C.2.1 dL_parts_170 (by decide) (fun c170 => ?_) (fun c170 => ?_)
                        · exact absurd rfl c170
                        · refine lv_aload C.1 C.2.1 dL_parts_173 (lv_at hl 9 rfl) ?_
                          refine lv_iconst (v := 2) C.1 C.2.1 dL_parts_175 (by decide) ?_
                          refine hv_ialdN (i := 2) C I fC (by decide) (by decide) dL_parts_176 ?_
                          refine lv_topi (fun z_17 ez_17 => ?_)
                          have ez_17 := ez_17.trans (show _ = nI d by exact ec2)
                          subst ez_17
                          refine lv_if_eq (tgt := 197) C.1 C.2.1 dL_parts_177 (by decide) (fun c177 => ?_) (fun c177 => ?_)
                          · have c177 : d = 0 := (nI_eq (a := d) (b := 0) (by omega) (by omega)).mp c177
                            refine lv_iconst (v := 1) C.1 C.2.1 dL_parts_197 (by decide) ?_
                            refine lv_goto (tgt := 202) C.1 C.2.1 dL_parts_198 (by decide) ?_
                            exact hv_zret (v := 1) C hr I rfl (⟨rfl, inv_mk hD hNar2 ⟨fH, fT, fP, fC, fZ⟩⟩) dL_parts_202 (Nat.le_of_ble_eq_true rfl) (Nat.le_of_ble_eq_true rfl)
                          · have c177 : ¬ (d = 0) := fun z => c177 ((nI_eq (a := d) (b := 0) (by omega) (by omega)).mpr z)
                            exfalso
                            omega
                · have c94 : y % 3 = 0 := (nI_eq (a := y % 3) (b := 0) (by omega) (by omega)).mp c94
                  refine lv_iconst (v := 0) C.1 C.2.1 dL_parts_97 (by decide) ?_
                  refine lv_goto (tgt := 107) C.1 C.2.1 dL_parts_98 (by decide) ?_
                  refine lv_istore (lv' := [(7, .int 0), (6, .int (nI b)), (5, .int (nI a)), (0, .ref (ad 0 0)), (1, .int (nI x)), (2, .int (nI y)), (3, .ref (aa 0)), (4, .ref (aa 3))]) C.1 C.2.1 dL_parts_107 hl (by decide) rfl (fun ls hl => ?_)
                  refine lv_aload C.1 C.2.1 dL_parts_109 (lv_at hl 7 rfl) ?_
                  refine lv_iconst (v := 2) C.1 C.2.1 dL_parts_111 (by decide) ?_
                  refine hv_ialdN (i := 2) C I fC (by decide) (by decide) dL_parts_112 ?_
                  refine lv_topi (fun z_18 ez_18 => ?_)
                  have ez_18 := ez_18.trans (show _ = nI d by exact ec2)
                  subst ez_18
                  refine lv_if_ne (tgt := 120) C.1 C.2.1 dL_parts_113 (by decide) (fun c113 => ?_) (fun c113 => ?_)
                  · have c113 : ¬ (d = 0) := fun z => c113 ((nI_eq (a := d) (b := 0) (by omega) (by omega)).mpr z)
                    refine lv_aload_n C.1 C.2.1 dL_parts_120 rfl (lv_at hl 3 rfl) ?_
                    refine lv_aload C.1 C.2.1 dL_parts_121 (lv_at hl 7 rfl) ?_
                    refine lv_iconst (v := 2) C.1 C.2.1 dL_parts_123 (by decide) ?_
                    refine hv_ialdN (i := 2) C I fC (by decide) (by decide) dL_parts_124 ?_
                    refine lv_topi (fun z_19 ez_19 => ?_)
                    have ez_19 := ez_19.trans (show _ = nI d by exact ec2)
                    subst ez_19
                    refine lv_iconst (v := 1) C.1 C.2.1 dL_parts_125 (by decide) ?_
                    refine lv_isub C.1 C.2.1 dL_parts_126 ?_
                    refine lv_topi (fun z_20 ez_20 => ?_)
                    have ez_20 := ez_20.trans (show _ = nI (d - 1) by exact pk_sub (a := d) (b := 1) (by omega))
                    subst ez_20
                    refine lv_iload C.1 C.2.1 dL_parts_127 (lv_at hl 2 rfl) ?_
                    obtain ⟨HH, DD, AA, w1, w2, w3, w4, w5, w6⟩ := hN.at (D := d - 1) (j := a) (by omega) ha1
                    refine hv_ki I (va_runV (As := [.int (nI (d - 1)), .int (nI a)]) (rest := []) C.fix (k_due l hlt G h _ (isD_le (cut_le aa h) hD) bn (Nat.le_refl _) (by omega) hP.2.1 (by omega) ha1 (v := nI DD) w2) (cwV 2 C.2.2.2.2.1 gL_parts_X4_due rfl rfl rfl (by decide +kernel) ⟨Nat.le_of_ble_eq_true rfl, Nat.le_of_ble_eq_true rfl⟩) (hv_preV C I (isD_0 (isD_le (cut_le aa h) hD)) (r := (RX4, TX4, 6)) rfl) rfl rfl hl.1 rfl (lv_room (Nat.le_of_ble_eq_true rfl)) dL_parts_129 ⟨Nat.le_of_ble_eq_true rfl, Nat.le_of_ble_eq_true rfl⟩) (fun ru_21 u_21 H locs pu_21 I => ?_)
                    obtain ⟨e1, e2⟩ := pu_21; have e1 := e1.symm; subst e1; have e2 := e2.symm; subst e2
                    refine lv_istore (lv' := [(8, .int (nI DD)), (7, .int 0), (6, .int (nI b)), (5, .int (nI a)), (0, .ref (ad 0 0)), (1, .int (nI x)), (2, .int (nI y)), (3, .ref (aa 0)), (4, .ref (aa 3))]) C.1 C.2.1 dL_parts_132 hl (by decide) rfl (fun ls hl => ?_)
                    refine lv_aload_n C.1 C.2.1 dL_parts_134 rfl (lv_at hl 4 rfl) ?_
                    refine lv_iload C.1 C.2.1 dL_parts_135 (lv_at hl 3 rfl) ?_
                    refine lv_iload C.1 C.2.1 dL_parts_137 (lv_at hl 2 rfl) ?_
                    refine lv_iload C.1 C.2.1 dL_parts_139 (lv_at hl 1 rfl) ?_
                    have hA : lvA aa h := LV.A (G := G) ⟨fH, fT, fP, fC, fZ⟩
                    refine hv_ski I (cut_le aa h) (va_runV (As := [.int (nI a), .int (nI b), .int 0]) (rest := []) C.fix (k_setParts l hlt G (cut aa h) _ hD bn ha1 hb1 h2a h2b (q := 0) (by omega) (v := nI QQ) hQ2) (cwV 3 C.2.2.2.2.1 gL_parts_X4_setParts rfl rfl rfl (by decide +kernel) ⟨Nat.le_of_ble_eq_true rfl, Nat.le_of_ble_eq_true rfl⟩) (hv_preV C (I.sub (cut_le aa h)) (isD_0 hD) (r := (RX4, TX4, 6)) rfl) rfl rfl hl.1 rfl (lv_room (Nat.le_of_ble_eq_true rfl)) dL_parts_141 ⟨Nat.le_of_ble_eq_true rfl, Nat.le_of_ble_eq_true rfl⟩) (fun ru_22 u_22 Ju_22 H locs pu_22 hfr I => ?_)
                    obtain ⟨hle, hkp⟩ := cut_aft hA hfr
                    have fH9 : Ju_22 (aa 0) = some (.inl (G.2.1 4, 20, .inr (.inl hF))) := (hkp _ (Or.inl rfl)).trans fH
                    have fT9 : Ju_22 (aa 1) = some (.inl (G.2.1 0, 12, .inl tF)) := (hkp _ (Or.inr (Or.inl rfl))).trans fT
                    have fP9 : Ju_22 (aa 2) = some (.inl (G.2.1 0, 13, .inl pF)) := (hkp _ (Or.inr (Or.inr (Or.inl rfl)))).trans fP
                    have fC9 : Ju_22 (aa 3) = some (.inl (G.2.1 0, 3, .inl cF)) := (hkp _ (Or.inr (Or.inr (Or.inr (Or.inl rfl))))).trans fC
                    have fZ9 : Ju_22 (aa 4) = some (.inl (G.2.1 4, 1, .inr (.inl zF))) := (hkp _ (Or.inr (Or.inr (Or.inr (Or.inr rfl))))).trans fZ
                    have fH := fH9
                    have fT := fT9
                    have fP := fP9
                    have fC := fC9
                    have fZ := fZ9
                    obtain ⟨e2, hD2⟩ := pu_22; have e2 := e2.symm; subst e2
                    obtain ⟨ar1, har1⟩ : ∃ z, z = va_up ar 9 (upd (ar 9) (20 * a + b) (nI 0)) := ⟨_, rfl⟩
                    rw [← har1] at hD2
                    have hD : isD G (cut aa Ju_22) ad n d d (nI t) rf ar1 fm po := isD_le hle hD2
                    have hNar1 : Nm n d t ar1 po rf hF tF pF cF zF kd ld sh fo si g la := by rw [har1]; exact hN.parts ha1 hb1 (by omega)
                    refine lv_istore (lv' := [(9, .int (nI QQ)), (8, .int (nI DD)), (7, .int 0), (6, .int (nI b)), (5, .int (nI a)), (0, .ref (ad 0 0)), (1, .int (nI x)), (2, .int (nI y)), (3, .ref (aa 0)), (4, .ref (aa 3))]) C.1 C.2.1 dL_parts_144 hl (by decide) rfl (fun ls hl => ?_)
                    refine lv_iload C.1 C.2.1 dL_parts_146 (lv_at hl 0 rfl) ?_
                    refine lv_if_lt (tgt := 201) C.1 C.2.1 dL_parts_148 (by decide) (fun c148 => ?_) (fun c148 => ?_)
                    · have c148 : QQ < 0 := (nI_ltI (a := QQ) (b := 0) (by omega) (by omega)).mp c148
                      exfalso
                      omega
                    · have c148 : ¬ (QQ < 0) := fun z => c148 ((nI_ltI (a := QQ) (b := 0) (by omega) (by omega)).mpr z)
                      refine lv_iload C.1 C.2.1 dL_parts_151 (lv_at hl 0 rfl) ?_
                      refine lv_bipush (v := 100) C.1 C.2.1 dL_parts_153 (by decide) ?_
                      refine lv_icmp_gt (tgt := 201) C.1 C.2.1 dL_parts_155 (by decide) (fun c155 => ?_) (fun c155 => ?_)
                      · have c155 : 100 < QQ := (nI_ltI (a := 100) (b := QQ) (by omega) (by omega)).mp c155
                        exfalso
                        omega
                      · have c155 : ¬ (100 < QQ) := fun z => c155 ((nI_ltI (a := 100) (b := QQ) (by omega) (by omega)).mpr z)
                        refine lv_aload_n C.1 C.2.1 dL_parts_158 rfl (lv_at hl 5 rfl) ?_
                        refine lv_iload C.1 C.2.1 dL_parts_159 (lv_at hl 4 rfl) ?_
                        refine lv_iload C.1 C.2.1 dL_parts_161 (lv_at hl 3 rfl) ?_
                        refine lv_iload C.1 C.2.1 dL_parts_163 (lv_at hl 2 rfl) ?_
                        have hA : lvA aa Ju_22 := LV.A (G := G) ⟨fH, fT, fP, fC, fZ⟩
                        refine hv_ski I (cut_le aa Ju_22) (va_runV (As := [.int (nI a), .int (nI b), .int 0]) (rest := []) C.fix (k_setParts l hlt G (cut aa Ju_22) _ hD bn ha1 hb1 (by rw [har1]; exact h2a) (by rw [har1]; exact h2b) (q := 0) (by omega) (v := 0) (by rw [har1]; exact upd_eq)) (cwV 3 C.2.2.2.2.1 gL_parts_X4_setParts rfl rfl rfl (by decide +kernel) ⟨Nat.le_of_ble_eq_true rfl, Nat.le_of_ble_eq_true rfl⟩) (hv_preV C (I.sub (cut_le aa Ju_22)) (isD_0 hD) (r := (RX4, TX4, 6)) rfl) rfl rfl hl.1 rfl (lv_room (Nat.le_of_ble_eq_true rfl)) dL_parts_165 ⟨Nat.le_of_ble_eq_true rfl, Nat.le_of_ble_eq_true rfl⟩) (fun ru_23 u_23 Ju_23 H locs pu_23 hfr I => ?_)
                        obtain ⟨hle, hkp⟩ := cut_aft hA hfr
                        have fH9 : Ju_23 (aa 0) = some (.inl (G.2.1 4, 20, .inr (.inl hF))) := (hkp _ (Or.inl rfl)).trans fH
                        have fT9 : Ju_23 (aa 1) = some (.inl (G.2.1 0, 12, .inl tF)) := (hkp _ (Or.inr (Or.inl rfl))).trans fT
                        have fP9 : Ju_23 (aa 2) = some (.inl (G.2.1 0, 13, .inl pF)) := (hkp _ (Or.inr (Or.inr (Or.inl rfl)))).trans fP
                        have fC9 : Ju_23 (aa 3) = some (.inl (G.2.1 0, 3, .inl cF)) := (hkp _ (Or.inr (Or.inr (Or.inr (Or.inl rfl))))).trans fC
                        have fZ9 : Ju_23 (aa 4) = some (.inl (G.2.1 4, 1, .inr (.inl zF))) := (hkp _ (Or.inr (Or.inr (Or.inr (Or.inr rfl))))).trans fZ
                        have fH := fH9
                        have fT := fT9
                        have fP := fP9
                        have fC := fC9
                        have fZ := fZ9
                        obtain ⟨e2, hD2⟩ := pu_23; have e2 := e2.symm; subst e2
                        obtain ⟨ar2, har2⟩ : ∃ z, z = va_up ar1 9 (upd (ar1 9) (20 * a + b) (nI 0)) := ⟨_, rfl⟩
                        rw [← har2] at hD2
                        have hD : isD G (cut aa Ju_23) ad n d d (nI t) rf ar2 fm po := isD_le hle hD2
                        have hNar2 : Nm n d t ar2 po rf hF tF pF cF zF kd ld sh fo si g la := by rw [har2]; exact hNar1.parts ha1 hb1 (by omega)
                        refine lv_iload C.1 C.2.1 dL_parts_168 (lv_at hl 2 rfl) ?_
                        refine lv_icmp_ne (tgt := 201) C.1 C.2.1 dL_parts_170 (by decide) (fun c170 => ?_) (fun c170 => ?_)
                        · exact absurd rfl c170
                        · refine lv_aload C.1 C.2.1 dL_parts_173 (lv_at hl 9 rfl) ?_
                          refine lv_iconst (v := 2) C.1 C.2.1 dL_parts_175 (by decide) ?_
                          refine hv_ialdN (i := 2) C I fC (by decide) (by decide) dL_parts_176 ?_
                          refine lv_topi (fun z_24 ez_24 => ?_)
                          have ez_24 := ez_24.trans (show _ = nI d by exact ec2)
                          subst ez_24
                          refine lv_if_eq (tgt := 197) C.1 C.2.1 dL_parts_177 (by decide) (fun c177 => ?_) (fun c177 => ?_)
                          · have c177 : d = 0 := (nI_eq (a := d) (b := 0) (by omega) (by omega)).mp c177
                            exfalso
                            omega
                          · have c177 : ¬ (d = 0) := fun z => c177 ((nI_eq (a := d) (b := 0) (by omega) (by omega)).mpr z)
                            refine lv_aload_n C.1 C.2.1 dL_parts_180 rfl (lv_at hl 5 rfl) ?_
                            refine lv_aload C.1 C.2.1 dL_parts_181 (lv_at hl 9 rfl) ?_
                            refine lv_iconst (v := 2) C.1 C.2.1 dL_parts_183 (by decide) ?_
                            refine hv_ialdN (i := 2) C I fC (by decide) (by decide) dL_parts_184 ?_
                            refine lv_topi (fun z_25 ez_25 => ?_)
                            have ez_25 := ez_25.trans (show _ = nI d by exact ec2)
                            subst ez_25
                            refine lv_iconst (v := 1) C.1 C.2.1 dL_parts_185 (by decide) ?_
                            refine lv_isub C.1 C.2.1 dL_parts_186 ?_
                            refine lv_topi (fun z_26 ez_26 => ?_)
                            have ez_26 := ez_26.trans (show _ = nI (d - 1) by exact pk_sub (a := d) (b := 1) (by omega))
                            subst ez_26
                            refine lv_iload C.1 C.2.1 dL_parts_187 (lv_at hl 4 rfl) ?_
                            refine hv_ki I (va_runV (As := [.int (nI (d - 1)), .int (nI a)]) (rest := []) C.fix (k_due l hlt G Ju_23 _ (isD_le (cut_le aa Ju_23) hD) bn (Nat.le_refl _) (by omega) hP.2.1 (by omega) ha1 (v := nI DD) (by rw [har2, har1]; exact w2)) (cwV 2 C.2.2.2.2.1 gL_parts_X4_due rfl rfl rfl (by decide +kernel) ⟨Nat.le_of_ble_eq_true rfl, Nat.le_of_ble_eq_true rfl⟩) (hv_preV C I (isD_0 (isD_le (cut_le aa Ju_23) hD)) (r := (RX4, TX4, 6)) rfl) rfl rfl hl.1 rfl (lv_room (Nat.le_of_ble_eq_true rfl)) dL_parts_189 ⟨Nat.le_of_ble_eq_true rfl, Nat.le_of_ble_eq_true rfl⟩) (fun ru_27 u_27 H locs pu_27 I => ?_)
                            obtain ⟨e1, e2⟩ := pu_27; have e1 := e1.symm; subst e1; have e2 := e2.symm; subst e2
                            refine lv_iload C.1 C.2.1 dL_parts_192 (lv_at hl 1 rfl) ?_
                            refine lv_icmp_ne (tgt := 201) C.1 C.2.1 dL_parts_194 (by decide) (fun c194 => ?_) (fun c194 => ?_)
                            · exact absurd rfl c194
                            · refine lv_iconst (v := 1) C.1 C.2.1 dL_parts_197 (by decide) ?_
                              refine lv_goto (tgt := 202) C.1 C.2.1 dL_parts_198 (by decide) ?_
                              exact hv_zret (v := 1) C hr I rfl (⟨rfl, inv_mk hD hNar2 ⟨fH, fT, fP, fC, fZ⟩⟩) dL_parts_202 (Nat.le_of_ble_eq_true rfl) (Nat.le_of_ble_eq_true rfl)
                  · have c113 : d = 0 := (nI_eq (a := d) (b := 0) (by omega) (by omega)).mp c113
                    refine lv_iconst (v := 0) C.1 C.2.1 dL_parts_116 (by decide) ?_
                    refine lv_goto (tgt := 132) C.1 C.2.1 dL_parts_117 (by decide) ?_
                    refine lv_istore (lv' := [(8, .int 0), (7, .int 0), (6, .int (nI b)), (5, .int (nI a)), (0, .ref (ad 0 0)), (1, .int (nI x)), (2, .int (nI y)), (3, .ref (aa 0)), (4, .ref (aa 3))]) C.1 C.2.1 dL_parts_132 hl (by decide) rfl (fun ls hl => ?_)
                    refine lv_aload_n C.1 C.2.1 dL_parts_134 rfl (lv_at hl 4 rfl) ?_
                    refine lv_iload C.1 C.2.1 dL_parts_135 (lv_at hl 3 rfl) ?_
                    refine lv_iload C.1 C.2.1 dL_parts_137 (lv_at hl 2 rfl) ?_
                    refine lv_iload C.1 C.2.1 dL_parts_139 (lv_at hl 1 rfl) ?_
                    have hA : lvA aa h := LV.A (G := G) ⟨fH, fT, fP, fC, fZ⟩
                    refine hv_ski I (cut_le aa h) (va_runV (As := [.int (nI a), .int (nI b), .int 0]) (rest := []) C.fix (k_setParts l hlt G (cut aa h) _ hD bn ha1 hb1 h2a h2b (q := 0) (by omega) (v := nI QQ) hQ2) (cwV 3 C.2.2.2.2.1 gL_parts_X4_setParts rfl rfl rfl (by decide +kernel) ⟨Nat.le_of_ble_eq_true rfl, Nat.le_of_ble_eq_true rfl⟩) (hv_preV C (I.sub (cut_le aa h)) (isD_0 hD) (r := (RX4, TX4, 6)) rfl) rfl rfl hl.1 rfl (lv_room (Nat.le_of_ble_eq_true rfl)) dL_parts_141 ⟨Nat.le_of_ble_eq_true rfl, Nat.le_of_ble_eq_true rfl⟩) (fun ru_28 u_28 Ju_28 H locs pu_28 hfr I => ?_)
                    obtain ⟨hle, hkp⟩ := cut_aft hA hfr
                    have fH9 : Ju_28 (aa 0) = some (.inl (G.2.1 4, 20, .inr (.inl hF))) := (hkp _ (Or.inl rfl)).trans fH
                    have fT9 : Ju_28 (aa 1) = some (.inl (G.2.1 0, 12, .inl tF)) := (hkp _ (Or.inr (Or.inl rfl))).trans fT
                    have fP9 : Ju_28 (aa 2) = some (.inl (G.2.1 0, 13, .inl pF)) := (hkp _ (Or.inr (Or.inr (Or.inl rfl)))).trans fP
                    have fC9 : Ju_28 (aa 3) = some (.inl (G.2.1 0, 3, .inl cF)) := (hkp _ (Or.inr (Or.inr (Or.inr (Or.inl rfl))))).trans fC
                    have fZ9 : Ju_28 (aa 4) = some (.inl (G.2.1 4, 1, .inr (.inl zF))) := (hkp _ (Or.inr (Or.inr (Or.inr (Or.inr rfl))))).trans fZ
                    have fH := fH9
                    have fT := fT9
                    have fP := fP9
                    have fC := fC9
                    have fZ := fZ9
                    obtain ⟨e2, hD2⟩ := pu_28; have e2 := e2.symm; subst e2
                    obtain ⟨ar1, har1⟩ : ∃ z, z = va_up ar 9 (upd (ar 9) (20 * a + b) (nI 0)) := ⟨_, rfl⟩
                    rw [← har1] at hD2
                    have hD : isD G (cut aa Ju_28) ad n d d (nI t) rf ar1 fm po := isD_le hle hD2
                    have hNar1 : Nm n d t ar1 po rf hF tF pF cF zF kd ld sh fo si g la := by rw [har1]; exact hN.parts ha1 hb1 (by omega)
                    refine lv_istore (lv' := [(9, .int (nI QQ)), (8, .int 0), (7, .int 0), (6, .int (nI b)), (5, .int (nI a)), (0, .ref (ad 0 0)), (1, .int (nI x)), (2, .int (nI y)), (3, .ref (aa 0)), (4, .ref (aa 3))]) C.1 C.2.1 dL_parts_144 hl (by decide) rfl (fun ls hl => ?_)
                    refine lv_iload C.1 C.2.1 dL_parts_146 (lv_at hl 0 rfl) ?_
                    refine lv_if_lt (tgt := 201) C.1 C.2.1 dL_parts_148 (by decide) (fun c148 => ?_) (fun c148 => ?_)
                    · have c148 : QQ < 0 := (nI_ltI (a := QQ) (b := 0) (by omega) (by omega)).mp c148
                      exfalso
                      omega
                    · have c148 : ¬ (QQ < 0) := fun z => c148 ((nI_ltI (a := QQ) (b := 0) (by omega) (by omega)).mpr z)
                      refine lv_iload C.1 C.2.1 dL_parts_151 (lv_at hl 0 rfl) ?_
                      refine lv_bipush (v := 100) C.1 C.2.1 dL_parts_153 (by decide) ?_
                      refine lv_icmp_gt (tgt := 201) C.1 C.2.1 dL_parts_155 (by decide) (fun c155 => ?_) (fun c155 => ?_)
                      · have c155 : 100 < QQ := (nI_ltI (a := 100) (b := QQ) (by omega) (by omega)).mp c155
                        exfalso
                        omega
                      · have c155 : ¬ (100 < QQ) := fun z => c155 ((nI_ltI (a := 100) (b := QQ) (by omega) (by omega)).mpr z)
                        refine lv_aload_n C.1 C.2.1 dL_parts_158 rfl (lv_at hl 5 rfl) ?_
                        refine lv_iload C.1 C.2.1 dL_parts_159 (lv_at hl 4 rfl) ?_
                        refine lv_iload C.1 C.2.1 dL_parts_161 (lv_at hl 3 rfl) ?_
                        refine lv_iload C.1 C.2.1 dL_parts_163 (lv_at hl 2 rfl) ?_
                        have hA : lvA aa Ju_28 := LV.A (G := G) ⟨fH, fT, fP, fC, fZ⟩
                        refine hv_ski I (cut_le aa Ju_28) (va_runV (As := [.int (nI a), .int (nI b), .int 0]) (rest := []) C.fix (k_setParts l hlt G (cut aa Ju_28) _ hD bn ha1 hb1 (by rw [har1]; exact h2a) (by rw [har1]; exact h2b) (q := 0) (by omega) (v := 0) (by rw [har1]; exact upd_eq)) (cwV 3 C.2.2.2.2.1 gL_parts_X4_setParts rfl rfl rfl (by decide +kernel) ⟨Nat.le_of_ble_eq_true rfl, Nat.le_of_ble_eq_true rfl⟩) (hv_preV C (I.sub (cut_le aa Ju_28)) (isD_0 hD) (r := (RX4, TX4, 6)) rfl) rfl rfl hl.1 rfl (lv_room (Nat.le_of_ble_eq_true rfl)) dL_parts_165 ⟨Nat.le_of_ble_eq_true rfl, Nat.le_of_ble_eq_true rfl⟩) (fun ru_29 u_29 Ju_29 H locs pu_29 hfr I => ?_)
                        obtain ⟨hle, hkp⟩ := cut_aft hA hfr
                        have fH9 : Ju_29 (aa 0) = some (.inl (G.2.1 4, 20, .inr (.inl hF))) := (hkp _ (Or.inl rfl)).trans fH
                        have fT9 : Ju_29 (aa 1) = some (.inl (G.2.1 0, 12, .inl tF)) := (hkp _ (Or.inr (Or.inl rfl))).trans fT
                        have fP9 : Ju_29 (aa 2) = some (.inl (G.2.1 0, 13, .inl pF)) := (hkp _ (Or.inr (Or.inr (Or.inl rfl)))).trans fP
                        have fC9 : Ju_29 (aa 3) = some (.inl (G.2.1 0, 3, .inl cF)) := (hkp _ (Or.inr (Or.inr (Or.inr (Or.inl rfl))))).trans fC
                        have fZ9 : Ju_29 (aa 4) = some (.inl (G.2.1 4, 1, .inr (.inl zF))) := (hkp _ (Or.inr (Or.inr (Or.inr (Or.inr rfl))))).trans fZ
                        have fH := fH9
                        have fT := fT9
                        have fP := fP9
                        have fC := fC9
                        have fZ := fZ9
                        obtain ⟨e2, hD2⟩ := pu_29; have e2 := e2.symm; subst e2
                        obtain ⟨ar2, har2⟩ : ∃ z, z = va_up ar1 9 (upd (ar1 9) (20 * a + b) (nI 0)) := ⟨_, rfl⟩
                        rw [← har2] at hD2
                        have hD : isD G (cut aa Ju_29) ad n d d (nI t) rf ar2 fm po := isD_le hle hD2
                        have hNar2 : Nm n d t ar2 po rf hF tF pF cF zF kd ld sh fo si g la := by rw [har2]; exact hNar1.parts ha1 hb1 (by omega)
                        refine lv_iload C.1 C.2.1 dL_parts_168 (lv_at hl 2 rfl) ?_
                        refine lv_icmp_ne (tgt := 201) C.1 C.2.1 dL_parts_170 (by decide) (fun c170 => ?_) (fun c170 => ?_)
                        · exact absurd rfl c170
                        · refine lv_aload C.1 C.2.1 dL_parts_173 (lv_at hl 9 rfl) ?_
                          refine lv_iconst (v := 2) C.1 C.2.1 dL_parts_175 (by decide) ?_
                          refine hv_ialdN (i := 2) C I fC (by decide) (by decide) dL_parts_176 ?_
                          refine lv_topi (fun z_30 ez_30 => ?_)
                          have ez_30 := ez_30.trans (show _ = nI d by exact ec2)
                          subst ez_30
                          refine lv_if_eq (tgt := 197) C.1 C.2.1 dL_parts_177 (by decide) (fun c177 => ?_) (fun c177 => ?_)
                          · have c177 : d = 0 := (nI_eq (a := d) (b := 0) (by omega) (by omega)).mp c177
                            refine lv_iconst (v := 1) C.1 C.2.1 dL_parts_197 (by decide) ?_
                            refine lv_goto (tgt := 202) C.1 C.2.1 dL_parts_198 (by decide) ?_
                            exact hv_zret (v := 1) C hr I rfl (⟨rfl, inv_mk hD hNar2 ⟨fH, fT, fP, fC, fZ⟩⟩) dL_parts_202 (Nat.le_of_ble_eq_true rfl) (Nat.le_of_ble_eq_true rfl)
                          · have c177 : ¬ (d = 0) := fun z => c177 ((nI_eq (a := d) (b := 0) (by omega) (by omega)).mpr z)
                            exfalso
                            omega
              · have c86 : ¬ (0 ≤ b) := fun z => c86 ((nI_leI (a := 0) (b := b) (by omega) (by omega)).mpr z)
                exfalso
                omega
      · have c15 : ¬ (n ≤ i) := fun z => c15 ((nI_leI (a := n) (b := i) (by omega) (by omega)).mpr z)
        refine lv_iload_n C.1 C.2.1 dL_parts_18 rfl (lv_at hl 4 rfl) ?_
        refine lv_iload C.1 C.2.1 dL_parts_19 (lv_at hl 0 rfl) ?_
        refine lv_iadd C.1 C.2.1 dL_parts_21 ?_
        refine lv_topi (fun z_31 ez_31 => ?_)
        have ez_31 := ez_31.trans (show _ = nI (x + i) by exact nI_add x i)
        subst ez_31
        refine lv_aload C.1 C.2.1 dL_parts_22 (lv_at hl 7 rfl) ?_
        refine lv_iconst (v := 1) C.1 C.2.1 dL_parts_24 (by decide) ?_
        refine hv_ialdN (i := 1) C I fC (by decide) (by decide) dL_parts_25 ?_
        refine lv_topi (fun z_32 ez_32 => ?_)
        have ez_32 := ez_32.trans (show _ = nI n by exact ec1)
        subst ez_32
        refine lv_irem C.1 C.2.1 dL_parts_26 (nI_ne0 (by omega) (by omega)) ?_
        refine lv_topi (fun z_33 ez_33 => ?_)
        have ez_33 := ez_33.trans (show _ = nI ((x + i) % n) by exact pk_rem (a := x + i) (d := n) (by omega) (by omega) (by omega))
        subst ez_33
        obtain ⟨w, hw⟩ : ∃ w, w = (x + i) % n := ⟨_, rfl⟩
        have hat : w < n := by rw [hw]; exact Nat.mod_lt _ (by omega)
        have hKa := hK w hat
        obtain ⟨_, _, q1, q2, q3, q4⟩ := id hKa
        refine lv_topi (fun z_34 ez_34 => ?_)
        have ez_34 := ez_34.trans (show _ = nI w by rw [hw])
        subst ez_34
        refine lv_istore (lv' := [(8, .int (nI w)), (7, .int (nI i)), (6, .int v6), (5, .int v5), (0, .ref (ad 0 0)), (1, .int (nI x)), (2, .int (nI y)), (3, .ref (aa 0)), (4, .ref (aa 3))]) C.1 C.2.1 dL_parts_27 hl (by decide) rfl (fun ls hl => ?_)
        refine lv_aload_n C.1 C.2.1 dL_parts_29 rfl (lv_at hl 7 rfl) ?_
        refine lv_iload C.1 C.2.1 dL_parts_30 (lv_at hl 0 rfl) ?_
        refine hv_laldN (i := w) C I fH (by omega) (by decide) dL_parts_32 ?_
        refine lv_iconst (v := 0) C.1 C.2.1 dL_parts_33 (by decide) ?_
        refine lv_iconst (v := 2) C.1 C.2.1 dL_parts_34 (by decide) ?_
        refine hv_ki I (va_runS (As := [.long (hF w), .int 0, .int 2]) (rest := []) C.fix (c_L_part l G h _ (hF w) 0 2 (v := nI (kd w)) hKa.2.1.1) (va_cwS 3 C.2.2.2.2.1 gL_parts_L_part rfl rfl rfl (by decide +kernel) ⟨Nat.le_of_ble_eq_true rfl, Nat.le_of_ble_eq_true rfl⟩) (hv_preS C I) rfl rfl hl.1 rfl (lv_room (Nat.le_of_ble_eq_true rfl)) dL_parts_35 ⟨Nat.le_of_ble_eq_true rfl, Nat.le_of_ble_eq_true rfl⟩) (fun ru_35 u_35 H locs pu_35 I => ?_)
        obtain ⟨e1, e2⟩ := pu_35; have e1 := e1.symm; subst e1; have e2 := e2.symm; subst e2
        refine lv_iconst (v := 2) C.1 C.2.1 dL_parts_38 (by decide) ?_
        refine lv_icmp_ne (tgt := 47) C.1 C.2.1 dL_parts_39 (by decide) (fun c39 => ?_) (fun c39 => ?_)
        · have c39 : ¬ (kd w = 2) := fun z => c39 ((nI_eq (a := kd w) (b := 2) (by omega) (by omega)).mpr z)
          refine lv_iload C.1 C.2.1 dL_parts_47 (lv_at hl 3 rfl) ?_
          refine lv_istore (lv' := [(5, .int v5), (8, .int (nI w)), (7, .int (nI i)), (6, .int v6), (0, .ref (ad 0 0)), (1, .int (nI x)), (2, .int (nI y)), (3, .ref (aa 0)), (4, .ref (aa 3))]) C.1 C.2.1 dL_parts_49 hl (by decide) rfl (fun ls hl => ?_)
          refine lv_aload_n C.1 C.2.1 dL_parts_51 rfl (lv_at hl 7 rfl) ?_
          refine lv_iload C.1 C.2.1 dL_parts_52 (lv_at hl 1 rfl) ?_
          refine hv_laldN (i := w) C I fH (by omega) (by decide) dL_parts_54 ?_
          refine lv_iconst (v := 0) C.1 C.2.1 dL_parts_55 (by decide) ?_
          refine lv_iconst (v := 2) C.1 C.2.1 dL_parts_56 (by decide) ?_
          refine hv_ki I (va_runS (As := [.long (hF w), .int 0, .int 2]) (rest := []) C.fix (c_L_part l G h _ (hF w) 0 2 (v := nI (kd w)) hKa.2.1.1) (va_cwS 3 C.2.2.2.2.1 gL_parts_L_part rfl rfl rfl (by decide +kernel) ⟨Nat.le_of_ble_eq_true rfl, Nat.le_of_ble_eq_true rfl⟩) (hv_preS C I) rfl rfl hl.1 rfl (lv_room (Nat.le_of_ble_eq_true rfl)) dL_parts_57 ⟨Nat.le_of_ble_eq_true rfl, Nat.le_of_ble_eq_true rfl⟩) (fun ru_36 u_36 H locs pu_36 I => ?_)
          obtain ⟨e1, e2⟩ := pu_36; have e1 := e1.symm; subst e1; have e2 := e2.symm; subst e2
          refine lv_iconst (v := 2) C.1 C.2.1 dL_parts_60 (by decide) ?_
          refine lv_icmp_ge (tgt := 69) C.1 C.2.1 dL_parts_61 (by decide) (fun c61 => ?_) (fun c61 => ?_)
          · have c61 : 2 ≤ kd w := (nI_leI (a := 2) (b := kd w) (by omega) (by omega)).mp c61
            refine lv_iload C.1 C.2.1 dL_parts_69 (lv_at hl 3 rfl) ?_
            refine lv_istore (lv' := [(6, .int v6), (5, .int v5), (8, .int (nI w)), (7, .int (nI i)), (0, .ref (ad 0 0)), (1, .int (nI x)), (2, .int (nI y)), (3, .ref (aa 0)), (4, .ref (aa 3))]) C.1 C.2.1 dL_parts_71 hl (by decide) rfl (fun ls hl => ?_)
            refine lv_iinc (v := nI (i + 1)) (lv' := [(7, .int (nI (i + 1))), (6, .int v6), (5, .int v5), (8, .int (nI w)), (0, .ref (ad 0 0)), (1, .int (nI x)), (2, .int (nI y)), (3, .ref (aa 0)), (4, .ref (aa 3))]) C.1 C.2.1 dL_parts_73 hl (k := 3) rfl (nI_1 i) (by decide) rfl (fun ls hl => ?_)
            refine lv_goto (tgt := 9) C.1 C.2.1 dL_parts_76 (by decide) ?_
            refine W.widen (k := 0) (n := 0) (by omega) (by omega) ?_
            exact loop_ih (i + 1) (by omega) (by omega) v5 v6 P5 P6 _ _ I ls (lv_sub hl [0, 1, 2, 4, 5, 6, 7, 8] rfl)
          · have c61 : ¬ (2 ≤ kd w) := fun z => c61 ((nI_leI (a := 2) (b := kd w) (by omega) (by omega)).mpr z)
            refine lv_iload C.1 C.2.1 dL_parts_64 (lv_at hl 1 rfl) ?_
            refine lv_goto (tgt := 71) C.1 C.2.1 dL_parts_66 (by decide) ?_
            refine lv_istore (lv' := [(6, .int (nI w)), (5, .int v5), (8, .int (nI w)), (7, .int (nI i)), (0, .ref (ad 0 0)), (1, .int (nI x)), (2, .int (nI y)), (3, .ref (aa 0)), (4, .ref (aa 3))]) C.1 C.2.1 dL_parts_71 hl (by decide) rfl (fun ls hl => ?_)
            refine lv_iinc (v := nI (i + 1)) (lv' := [(7, .int (nI (i + 1))), (6, .int (nI w)), (5, .int v5), (8, .int (nI w)), (0, .ref (ad 0 0)), (1, .int (nI x)), (2, .int (nI y)), (3, .ref (aa 0)), (4, .ref (aa 3))]) C.1 C.2.1 dL_parts_73 hl (k := 3) rfl (nI_1 i) (by decide) rfl (fun ls hl => ?_)
            refine lv_goto (tgt := 9) C.1 C.2.1 dL_parts_76 (by decide) ?_
            refine W.widen (k := 0) (n := 0) (by omega) (by omega) ?_
            exact loop_ih (i + 1) (by omega) (by omega) v5 (nI w) P5 (Or.inr ⟨w, hat, by omega, rfl⟩) _ _ I ls (lv_sub hl [0, 1, 2, 4, 5, 6, 7, 8] rfl)
        · have c39 : kd w = 2 := (nI_eq (a := kd w) (b := 2) (by omega) (by omega)).mp c39
          refine lv_iload C.1 C.2.1 dL_parts_42 (lv_at hl 0 rfl) ?_
          refine lv_goto (tgt := 49) C.1 C.2.1 dL_parts_44 (by decide) ?_
          refine lv_istore (lv' := [(5, .int (nI w)), (8, .int (nI w)), (7, .int (nI i)), (6, .int v6), (0, .ref (ad 0 0)), (1, .int (nI x)), (2, .int (nI y)), (3, .ref (aa 0)), (4, .ref (aa 3))]) C.1 C.2.1 dL_parts_49 hl (by decide) rfl (fun ls hl => ?_)
          refine lv_aload_n C.1 C.2.1 dL_parts_51 rfl (lv_at hl 7 rfl) ?_
          refine lv_iload C.1 C.2.1 dL_parts_52 (lv_at hl 1 rfl) ?_
          refine hv_laldN (i := w) C I fH (by omega) (by decide) dL_parts_54 ?_
          refine lv_iconst (v := 0) C.1 C.2.1 dL_parts_55 (by decide) ?_
          refine lv_iconst (v := 2) C.1 C.2.1 dL_parts_56 (by decide) ?_
          refine hv_ki I (va_runS (As := [.long (hF w), .int 0, .int 2]) (rest := []) C.fix (c_L_part l G h _ (hF w) 0 2 (v := nI (kd w)) hKa.2.1.1) (va_cwS 3 C.2.2.2.2.1 gL_parts_L_part rfl rfl rfl (by decide +kernel) ⟨Nat.le_of_ble_eq_true rfl, Nat.le_of_ble_eq_true rfl⟩) (hv_preS C I) rfl rfl hl.1 rfl (lv_room (Nat.le_of_ble_eq_true rfl)) dL_parts_57 ⟨Nat.le_of_ble_eq_true rfl, Nat.le_of_ble_eq_true rfl⟩) (fun ru_37 u_37 H locs pu_37 I => ?_)
          obtain ⟨e1, e2⟩ := pu_37; have e1 := e1.symm; subst e1; have e2 := e2.symm; subst e2
          refine lv_iconst (v := 2) C.1 C.2.1 dL_parts_60 (by decide) ?_
          refine lv_icmp_ge (tgt := 69) C.1 C.2.1 dL_parts_61 (by decide) (fun c61 => ?_) (fun c61 => ?_)
          · have c61 : 2 ≤ kd w := (nI_leI (a := 2) (b := kd w) (by omega) (by omega)).mp c61
            refine lv_iload C.1 C.2.1 dL_parts_69 (lv_at hl 3 rfl) ?_
            refine lv_istore (lv' := [(6, .int v6), (5, .int (nI w)), (8, .int (nI w)), (7, .int (nI i)), (0, .ref (ad 0 0)), (1, .int (nI x)), (2, .int (nI y)), (3, .ref (aa 0)), (4, .ref (aa 3))]) C.1 C.2.1 dL_parts_71 hl (by decide) rfl (fun ls hl => ?_)
            refine lv_iinc (v := nI (i + 1)) (lv' := [(7, .int (nI (i + 1))), (6, .int v6), (5, .int (nI w)), (8, .int (nI w)), (0, .ref (ad 0 0)), (1, .int (nI x)), (2, .int (nI y)), (3, .ref (aa 0)), (4, .ref (aa 3))]) C.1 C.2.1 dL_parts_73 hl (k := 3) rfl (nI_1 i) (by decide) rfl (fun ls hl => ?_)
            refine lv_goto (tgt := 9) C.1 C.2.1 dL_parts_76 (by decide) ?_
            refine W.widen (k := 0) (n := 0) (by omega) (by omega) ?_
            exact loop_ih (i + 1) (by omega) (by omega) (nI w) v6 (Or.inr ⟨w, hat, c39, rfl⟩) P6 _ _ I ls (lv_sub hl [0, 1, 2, 4, 5, 6, 7, 8] rfl)
          · have c61 : ¬ (2 ≤ kd w) := fun z => c61 ((nI_leI (a := 2) (b := kd w) (by omega) (by omega)).mpr z)
            refine lv_iload C.1 C.2.1 dL_parts_64 (lv_at hl 1 rfl) ?_
            refine lv_goto (tgt := 71) C.1 C.2.1 dL_parts_66 (by decide) ?_
            refine lv_istore (lv' := [(6, .int (nI w)), (5, .int (nI w)), (8, .int (nI w)), (7, .int (nI i)), (0, .ref (ad 0 0)), (1, .int (nI x)), (2, .int (nI y)), (3, .ref (aa 0)), (4, .ref (aa 3))]) C.1 C.2.1 dL_parts_71 hl (by decide) rfl (fun ls hl => ?_)
            refine lv_iinc (v := nI (i + 1)) (lv' := [(7, .int (nI (i + 1))), (6, .int (nI w)), (5, .int (nI w)), (8, .int (nI w)), (0, .ref (ad 0 0)), (1, .int (nI x)), (2, .int (nI y)), (3, .ref (aa 0)), (4, .ref (aa 3))]) C.1 C.2.1 dL_parts_73 hl (k := 3) rfl (nI_1 i) (by decide) rfl (fun ls hl => ?_)
            refine lv_goto (tgt := 9) C.1 C.2.1 dL_parts_76 (by decide) ?_
            refine W.widen (k := 0) (n := 0) (by omega) (by omega) ?_
            exact loop_ih (i + 1) (by omega) (by omega) (nI w) (nI w) (Or.inr ⟨w, hat, c39, rfl⟩) (Or.inr ⟨w, hat, by omega, rfl⟩) _ _ I ls (lv_sub hl [0, 1, 2, 4, 5, 6, 7, 8] rfl)
  refine W.widen (k := 0) (n := 0) (by omega) (by omega) ?_
  exact loop (n + 1) 0 (Nat.zero_le _) (by omega) (-1) (-1) (Or.inl rfl) (Or.inl rfl) _ _ I ls (lv_sub hl [0, 1, 2, 3, 4, 5, 6, 7] rfl)

set_option maxHeartbeats 4000000 in
set_option maxRecDepth 100000 in
theorem c_L_pays (l : Launch) (G : hv_G) (h : hv) (sz : Nat)  (hlt : l.stackTraces = false) {aa : Nat → Nat} {ad : Nat → Nat → Nat} {n d t : Nat} {rf : Int64} {ar : AR} {fm : Nat → Int32} {po : PO} {hF : Nat → Int64} {tF pF cF : Nat → Int32} {zF : Nat → Int64} {kd ld sh fo si g la : Nat → Nat} (hD : isD G (cut aa h) ad n d d (nI t) rf ar fm po) (hL : LV G aa h hF tF pF cF zF) (hN : Nm n d t ar po rf hF tF pF cF zF kd ld sh fo si g la) {ce : Nat} (h1 : 1 ≤ ce) (hc : ce ≤ 1000) (hd12 : d < 12) (hp : pF d = nI t) : hv_Mi l yL_pays wsL_pays 14 500 700 3400 G h sz [.ref (ad 0 0), .int (nI ce), .ref (aa 0), .ref (aa 1), .ref (aa 3)] (fun r u => r = 1 ∧ Inv G aa (ad 0 0) u) := by
  obtain ⟨fH, fT, fP, fC, fZ⟩ := id hL
  obtain ⟨⟨bn, bd, bt⟩, ⟨ec0, ec1, ec2, ez0⟩, hK, hS, hR, hZ, hQ, hP⟩ := id hN
  refine hv_enter (y := yL_pays) (avs := [.ref (ad 0 0), .int (nI ce), .ref (aa 0), .ref (aa 1), .ref (aa 3)]) (maxL := 14) (Qf := fun sz => va_Qi (fun r u => r = 1 ∧ Inv G aa (ad 0 0) u) (hv_Bq G h sz) (hv_A h sz)) (by decide) rfl rfl (Nat.le_of_ble_eq_true rfl) ?_
  intro p e s m below meth c hr hnm C I ls hl
  have hl : lv_has ls 14 [(0, .ref (ad 0 0)), (1, .int (nI ce)), (2, .ref (aa 0)), (3, .ref (aa 1)), (4, .ref (aa 3))] := hl
  refine lv_iconst (v := 0) C.1 C.2.1 dL_pays_0 (by decide) ?_
  refine lv_istore (lv' := [(5, .int 0), (0, .ref (ad 0 0)), (1, .int (nI ce)), (2, .ref (aa 0)), (3, .ref (aa 1)), (4, .ref (aa 3))]) C.1 C.2.1 dL_pays_1 hl (by decide) rfl (fun ls hl => ?_)
  refine lv_iconst (v := 0) C.1 C.2.1 dL_pays_3 (by decide) ?_
  refine lv_istore (lv' := [(6, .int 0), (5, .int 0), (0, .ref (ad 0 0)), (1, .int (nI ce)), (2, .ref (aa 0)), (3, .ref (aa 1)), (4, .ref (aa 3))]) C.1 C.2.1 dL_pays_4 hl (by decide) rfl (fun ls hl => ?_)
  have loop : ∀ (k9 i : Nat), i ≤ n → n + 1 ≤ i + k9 → ∀ (H : Heap) (locs : List Loc), hv_I G h s h H locs → ∀ ls : Array Slot, lv_has ls 14 [(6, .int (nI i)), (5, .int (nI (sumN sh i))), (0, .ref (ad 0 0)), (1, .int (nI ce)), (2, .ref (aa 0)), (3, .ref (aa 1)), (4, .ref (aa 3))] → W p l e (hv_rm 14 700 3400 500) s m (([.ref (ad 0 0), .int (nI ce), .ref (aa 0), .ref (aa 1), .ref (aa 3)] : List Value).toArray) below meth c H locs 0 0 (MQ below (va_Qi (fun r u => r = 1 ∧ Inv G aa (ad 0 0) u) (hv_Bq G h s.heap.size) (hv_A h s.heap.size)) (([.ref (ad 0 0), .int (nI ce), .ref (aa 0), .ref (aa 1), .ref (aa 3)] : List Value).toArray) s 700 3400 (hv_A h s.heap.size)) (F0 m 6 ls []) := by
    intro k9
    induction k9 with
    | zero => intro i hi hin; exact absurd hin (by omega)
    | succ k9 loop_ih =>
      intro i hi hin H locs I ls hl
      refine lv_iload C.1 C.2.1 dL_pays_6 (lv_at hl 0 rfl) ?_
      refine lv_aload C.1 C.2.1 dL_pays_8 (lv_at hl 6 rfl) ?_
      refine lv_iconst (v := 1) C.1 C.2.1 dL_pays_10 (by decide) ?_
      refine hv_ialdN (i := 1) C I fC (by decide) (by decide) dL_pays_11 ?_
      refine lv_topi (fun z_1 ez_1 => ?_)
      have ez_1 := ez_1.trans (show _ = nI n by exact ec1)
      subst ez_1
      refine lv_icmp_ge (tgt := 36) C.1 C.2.1 dL_pays_12 (by decide) (fun c12 => ?_) (fun c12 => ?_)
      · have c12 : n ≤ i := (nI_leI (a := n) (b := i) (by omega) (by omega)).mp c12
        have ein : i = n := by omega
        rw [ein] at hl
        refine lv_aload_n C.1 C.2.1 dL_pays_36 rfl (lv_at hl 2 rfl) ?_
        refine lv_iconst (v := 3) C.1 C.2.1 dL_pays_37 (by decide) ?_
        refine lv_iload_n C.1 C.2.1 dL_pays_38 rfl (lv_at hl 3 rfl) ?_
        refine lv_iconst (v := 0) C.1 C.2.1 dL_pays_39 (by decide) ?_
        have hA : lvA aa h := LV.A (G := G) ⟨fH, fT, fP, fC, fZ⟩
        refine hv_ki I (vx_runSW (As := [.ref (ad 0 0), .int 3, .int (nI ce), .int 0]) (rest := []) C.fix (a_pay l hlt G h _ hD hA hN h1 hc 0) (vx_cwSW 4 C.2.2.2.2.1 gL_pays_L_asks rfl rfl rfl (by decide +kernel) ⟨Nat.le_of_ble_eq_true rfl, Nat.le_of_ble_eq_true rfl⟩) (hv_preS C I) rfl rfl hl.1 rfl (lv_room (Nat.le_of_ble_eq_true rfl)) dL_pays_40 ⟨Nat.le_of_ble_eq_true rfl, Nat.le_of_ble_eq_true rfl⟩) (fun ru_2 u_2 H locs pu_2 I => ?_)
        obtain ⟨hkp, hcase⟩ := pu_2
        have fH9 : u_2 (aa 0) = some (.inl (G.2.1 4, 20, .inr (.inl hF))) := (hkp _ (Or.inl rfl)).trans fH
        have fT9 : u_2 (aa 1) = some (.inl (G.2.1 0, 12, .inl tF)) := (hkp _ (Or.inr (Or.inl rfl))).trans fT
        have fP9 : u_2 (aa 2) = some (.inl (G.2.1 0, 13, .inl pF)) := (hkp _ (Or.inr (Or.inr (Or.inl rfl)))).trans fP
        have fC9 : u_2 (aa 3) = some (.inl (G.2.1 0, 3, .inl cF)) := (hkp _ (Or.inr (Or.inr (Or.inr (Or.inl rfl))))).trans fC
        have fZ9 : u_2 (aa 4) = some (.inl (G.2.1 4, 1, .inr (.inl zF))) := (hkp _ (Or.inr (Or.inr (Or.inr (Or.inr rfl))))).trans fZ
        have fH := fH9
        have fT := fT9
        have fP := fP9
        have fC := fC9
        have fZ := fZ9
        rcases hcase with ⟨s1, e2, ad2, e3, hD⟩ | ⟨s1, e2, hD⟩
        · have e2 := e2.symm; subst e2
          rw [← e3] at hl
          have hN1 := hN.pay hc hd12 hp (vfm (nI t) (ar 7) n) (y := nI (d + 1)) rfl
          have hP1 := hN1.2.2.2.2.2.2.2
          refine lv_istore (lv' := [(6, .int (nI d)), (5, .int (nI (sumN sh n))), (0, .ref (ad2 0 0)), (1, .int (nI ce)), (2, .ref (aa 0)), (3, .ref (aa 1)), (4, .ref (aa 3))]) C.1 C.2.1 dL_pays_43 hl (by decide) rfl (fun ls hl => ?_)
          refine lv_iload C.1 C.2.1 dL_pays_45 (lv_at hl 1 rfl) ?_
          refine lv_if_eq (tgt := 59) C.1 C.2.1 dL_pays_47 (by decide) (fun c47 => ?_) (fun c47 => ?_)
          · have c47 : sumN sh n = 0 := (nI_eq (a := sumN sh n) (b := 0) (by omega) (by omega)).mp c47
            exfalso
            omega
          · have c47 : ¬ (sumN sh n = 0) := fun z => c47 ((nI_eq (a := sumN sh n) (b := 0) (by omega) (by omega)).mpr z)
            refine lv_aload C.1 C.2.1 dL_pays_50 (lv_at hl 6 rfl) ?_
            refine lv_iconst (v := 2) C.1 C.2.1 dL_pays_52 (by decide) ?_
            refine hv_ialdN (i := 2) C I fC (by decide) (by decide) dL_pays_53 ?_
            refine lv_topi (fun z_3 ez_3 => ?_)
            have ez_3 := ez_3.trans (show _ = nI d by exact ec2)
            subst ez_3
            refine lv_bipush (v := 40) C.1 C.2.1 dL_pays_54 (by decide) ?_
            refine lv_icmp_ne (tgt := 72) C.1 C.2.1 dL_pays_56 (by decide) (fun c56 => ?_) (fun c56 => ?_)
            · have c56 : ¬ (d = 40) := fun z => c56 ((nI_eq (a := d) (b := 40) (by omega) (by omega)).mpr z)
              refine lv_iload C.1 C.2.1 dL_pays_72 (lv_at hl 0 rfl) ?_
              refine lv_aload C.1 C.2.1 dL_pays_74 (lv_at hl 6 rfl) ?_
              refine lv_iconst (v := 2) C.1 C.2.1 dL_pays_76 (by decide) ?_
              refine hv_ialdN (i := 2) C I fC (by decide) (by decide) dL_pays_77 ?_
              refine lv_topi (fun z_4 ez_4 => ?_)
              have ez_4 := ez_4.trans (show _ = nI d by exact ec2)
              subst ez_4
              refine lv_icmp_ne (tgt := 85) C.1 C.2.1 dL_pays_78 (by decide) (fun c78 => ?_) (fun c78 => ?_)
              · exact absurd rfl c78
              · refine lv_iconst (v := 1) C.1 C.2.1 dL_pays_81 (by decide) ?_
                refine lv_goto (tgt := 86) C.1 C.2.1 dL_pays_82 (by decide) ?_
                refine lv_istore (lv' := [(7, .int 1), (6, .int (nI d)), (5, .int (nI (sumN sh n))), (0, .ref (ad2 0 0)), (1, .int (nI ce)), (2, .ref (aa 0)), (3, .ref (aa 1)), (4, .ref (aa 3))]) C.1 C.2.1 dL_pays_86 hl (by decide) rfl (fun ls hl => ?_)
                refine lv_iconst (v := 0) C.1 C.2.1 dL_pays_88 (by decide) ?_
                refine lv_istore (lv' := [(8, .int 0), (7, .int 1), (6, .int (nI d)), (5, .int (nI (sumN sh n))), (0, .ref (ad2 0 0)), (1, .int (nI ce)), (2, .ref (aa 0)), (3, .ref (aa 1)), (4, .ref (aa 3))]) C.1 C.2.1 dL_pays_89 hl (by decide) rfl (fun ls hl => ?_)
                have loop2 : ∀ (k9 j : Nat), j ≤ n → n + 1 ≤ j + k9 → ∀ (H : Heap) (locs : List Loc), hv_I G h s u_2 H locs → ∀ ls : Array Slot, lv_has ls 14 [(8, .int (nI j)), (7, .int 1), (6, .int (nI d)), (5, .int (nI (sumN sh n))), (0, .ref (ad2 0 0)), (1, .int (nI ce)), (2, .ref (aa 0)), (3, .ref (aa 1)), (4, .ref (aa 3))] → W p l e (hv_rm 14 700 3400 500) s m (([.ref (ad 0 0), .int (nI ce), .ref (aa 0), .ref (aa 1), .ref (aa 3)] : List Value).toArray) below meth c H locs (503 + 8 * j) (2332 + 48 * j) (MQ below (va_Qi (fun r u => r = 1 ∧ Inv G aa (ad 0 0) u) (hv_Bq G h s.heap.size) (hv_A h s.heap.size)) (([.ref (ad 0 0), .int (nI ce), .ref (aa 0), .ref (aa 1), .ref (aa 3)] : List Value).toArray) s 700 3400 (hv_A h s.heap.size)) (F0 m 91 ls []) := by
                  intro k9
                  induction k9 with
                  | zero => intro j hj hin; exact absurd hin (by omega)
                  | succ k9 loop2_ih =>
                    intro j hj hin H locs I ls hl
                    refine lv_iload C.1 C.2.1 dL_pays_91 (lv_at hl 0 rfl) ?_
                    refine lv_aload C.1 C.2.1 dL_pays_93 (lv_at hl 8 rfl) ?_
                    refine lv_iconst (v := 1) C.1 C.2.1 dL_pays_95 (by decide) ?_
                    refine hv_ialdN (i := 1) C I fC (by decide) (by decide) dL_pays_96 ?_
                    refine lv_topi (fun z_5 ez_5 => ?_)
                    have ez_5 := ez_5.trans (show _ = nI n by exact ec1)
                    subst ez_5
                    refine lv_icmp_ge (tgt := 324) C.1 C.2.1 dL_pays_97 (by decide) (fun c97 => ?_) (fun c97 => ?_)
                    · have c97 : n ≤ j := (nI_leI (a := n) (b := j) (by omega) (by omega)).mp c97
                      refine lv_aload C.1 C.2.1 dL_pays_324 (lv_at hl 8 rfl) ?_
                      refine lv_iconst (v := 2) C.1 C.2.1 dL_pays_326 (by decide) ?_
                      refine lv_dup2_11 C.1 C.2.1 dL_pays_327 rfl rfl ?_
                      refine hv_ialdN (i := 2) C I fC (by decide) (by decide) dL_pays_328 ?_
                      refine lv_topi (fun z_6 ez_6 => ?_)
                      have ez_6 := ez_6.trans (show _ = nI d by exact ec2)
                      subst ez_6
                      refine lv_iconst (v := 1) C.1 C.2.1 dL_pays_329 (by decide) ?_
                      refine lv_iadd C.1 C.2.1 dL_pays_330 ?_
                      refine lv_topi (fun z_7 ez_7 => ?_)
                      have ez_7 := ez_7.trans (show _ = nI (d + 1) by exact nI_add d 1)
                      subst ez_7
                      refine hv_iastN (i := 2) C I fC (by decide) (by decide) dL_pays_331 (fun H locs I => ?_)
                      obtain ⟨h_8, eh_8⟩ : ∃ z, z = hv_up u_2 (aa 3) (.inl (G.2.1 0, 3, .inl (upd cF 2 (nI (d + 1))))) := ⟨_, rfl⟩
                      have I : hv_I G h s h_8 H locs := by rw [eh_8]; exact I
                      have hD : isD G (cut aa h_8) ad2 n (d + 1) (d + 1) (nI t) rf (ARP ar t n d ce (vfm (nI t) (ar 7) n)) (va_up fm d (vfm (nI t) (ar 7) n)) (POP ar po t n d ce) := by rw [eh_8, cut_up (Or.inr (Or.inr (Or.inr (Or.inl rfl))))]; exact hD
                      have fH9 : h_8 (aa 0) = some (.inl (G.2.1 4, 20, .inr (.inl hF))) := by rw [eh_8, hv_up_ne (hv_neLen fH fC (by decide))]; exact fH
                      have fT9 : h_8 (aa 1) = some (.inl (G.2.1 0, 12, .inl tF)) := by rw [eh_8, hv_up_ne (hv_neLen fT fC (by decide))]; exact fT
                      have fP9 : h_8 (aa 2) = some (.inl (G.2.1 0, 13, .inl pF)) := by rw [eh_8, hv_up_ne (hv_neLen fP fC (by decide))]; exact fP
                      have fC9 : h_8 (aa 3) = some (.inl (G.2.1 0, 3, .inl (upd cF 2 (nI (d + 1))))) := by rw [eh_8]; exact hv_up_eq
                      have fZ9 : h_8 (aa 4) = some (.inl (G.2.1 4, 1, .inr (.inl zF))) := by rw [eh_8, hv_up_ne (hv_neLen fZ fC (by decide))]; exact fZ
                      have fH := fH9
                      have fT := fT9
                      have fP := fP9
                      have fC := fC9
                      have fZ := fZ9
                      refine lv_iload C.1 C.2.1 dL_pays_332 (lv_at hl 1 rfl) ?_
                      exact hv_zret (v := 1) C hr I rfl (⟨rfl, by rw [← e3]; exact inv_mk hD hN1 ⟨fH, fT, fP, fC, fZ⟩⟩) dL_pays_334 (by omega) (by omega)
                    · have c97 : ¬ (n ≤ j) := fun z => c97 ((nI_leI (a := n) (b := j) (by omega) (by omega)).mpr z)
                      have hj97 : j < n := by omega
                      have hKj := hK j hj97
                      obtain ⟨_, _, q1, q2, q3, q4⟩ := id hKj
                      have qk : kd j ≤ 2 := by omega
                      obtain ⟨_, hA9⟩ := cents_N hKj hc
                      obtain ⟨r1, HH, r2, r3, r4⟩ := pay_reads hN hc hj97 (FM := (vfm (nI t) (ar 7) n)) rfl
                      have e12 := arp_12 (ar := ar) (t := t) (d := d) (FM := (vfm (nI t) (ar 7) n)) hKj hc hj97
                      obtain ⟨GG, hGG⟩ : ∃ z, z = sh j * ce := ⟨_, rfl⟩
                      rw [← hGG] at hA9 r1 r3 r4 e12
                      refine lv_iload C.1 C.2.1 dL_pays_100 (lv_at hl 1 rfl) ?_
                      refine lv_if_eq (tgt := 324) C.1 C.2.1 dL_pays_102 (by decide) (fun c102 => ?_) (fun c102 => ?_)
                      · exact absurd c102 (by decide)
                      · refine lv_aload_n C.1 C.2.1 dL_pays_105 rfl (lv_at hl 6 rfl) ?_
                        refine lv_iload C.1 C.2.1 dL_pays_106 (lv_at hl 0 rfl) ?_
                        refine hv_laldN (i := j) C I fH (by omega) (by decide) dL_pays_108 ?_
                        refine lv_iconst (v := 5) C.1 C.2.1 dL_pays_109 (by decide) ?_
                        refine lv_bipush (v := 20) C.1 C.2.1 dL_pays_110 (by decide) ?_
                        refine hv_ki I (va_runS (As := [.long (hF j), .int 5, .int 20]) (rest := []) C.fix (c_L_part l G u_2 _ (hF j) 5 20 (v := nI (sh j)) hKj.2.1.2.2.1) (va_cwS 3 C.2.2.2.2.1 gL_pays_L_part rfl rfl rfl (by decide +kernel) ⟨Nat.le_of_ble_eq_true rfl, Nat.le_of_ble_eq_true rfl⟩) (hv_preS C I) rfl rfl hl.1 rfl (lv_room (Nat.le_of_ble_eq_true rfl)) dL_pays_112 ⟨by show _ ≤ 700; omega, by show _ ≤ 3400; omega⟩) (fun ru_9 u_9 H locs pu_9 I => ?_)
                        obtain ⟨e1, e2⟩ := pu_9; have e1 := e1.symm; subst e1; have e2 := e2.symm; subst e2
                        refine lv_i2l C.1 C.2.1 dL_pays_115 rfl ?_
                        refine lv_topl (fun z_10 ez_10 => ?_)
                        have ez_10 := ez_10.trans (show _ = lN (sh j) by exact nI_l (n := sh j) (by omega))
                        subst ez_10
                        refine lv_iload_n C.1 C.2.1 dL_pays_116 rfl (lv_at hl 5 rfl) ?_
                        refine lv_i2l C.1 C.2.1 dL_pays_117 rfl ?_
                        refine lv_topl (fun z_11 ez_11 => ?_)
                        have ez_11 := ez_11.trans (show _ = lN ce by exact nI_l (n := ce) (by omega))
                        subst ez_11
                        refine lv_lmul C.1 C.2.1 dL_pays_118 ?_
                        refine lv_topl (fun z_12 ez_12 => ?_)
                        have ez_12 := ez_12.trans (show _ = lN ((sh j) * ce) by exact lN_mul (sh j) ce)
                        subst ez_12
                        refine lv_topl (fun z_13 ez_13 => ?_)
                        have ez_13 := ez_13.trans (show _ = lN GG by rw [hGG])
                        subst ez_13
                        refine lv_lstore (lv' := [(9, .long (lN GG)), (8, .int (nI j)), (7, .int 1), (6, .int (nI d)), (5, .int (nI (sumN sh n))), (0, .ref (ad2 0 0)), (1, .int (nI ce)), (2, .ref (aa 0)), (3, .ref (aa 1)), (4, .ref (aa 3))]) C.1 C.2.1 dL_pays_119 hl (by decide) rfl (fun ls hl => ?_)
                        refine lv_aload_n C.1 C.2.1 dL_pays_121 rfl (lv_at hl 7 rfl) ?_
                        refine lv_iload C.1 C.2.1 dL_pays_122 (lv_at hl 1 rfl) ?_
                        refine hv_laldN (i := j) C I fH (by omega) (by decide) dL_pays_124 ?_
                        refine lv_iconst (v := 0) C.1 C.2.1 dL_pays_125 (by decide) ?_
                        refine lv_iconst (v := 2) C.1 C.2.1 dL_pays_126 (by decide) ?_
                        refine hv_ki I (va_runS (As := [.long (hF j), .int 0, .int 2]) (rest := []) C.fix (c_L_part l G u_2 _ (hF j) 0 2 (v := nI (kd j)) hKj.2.1.1) (va_cwS 3 C.2.2.2.2.1 gL_pays_L_part rfl rfl rfl (by decide +kernel) ⟨Nat.le_of_ble_eq_true rfl, Nat.le_of_ble_eq_true rfl⟩) (hv_preS C I) rfl rfl hl.1 rfl (lv_room (Nat.le_of_ble_eq_true rfl)) dL_pays_127 ⟨by show _ ≤ 700; omega, by show _ ≤ 3400; omega⟩) (fun ru_14 u_14 H locs pu_14 I => ?_)
                        obtain ⟨e1, e2⟩ := pu_14; have e1 := e1.symm; subst e1; have e2 := e2.symm; subst e2
                        refine lv_iconst (v := 2) C.1 C.2.1 dL_pays_130 (by decide) ?_
                        refine lv_icmp_ge (tgt := 138) C.1 C.2.1 dL_pays_131 (by decide) (fun c131 => ?_) (fun c131 => ?_)
                        · have c131 : 2 ≤ kd j := (nI_leI (a := 2) (b := kd j) (by omega) (by omega)).mp c131
                          refine lv_iconst (v := 0) C.1 C.2.1 dL_pays_138 (by decide) ?_
                          refine lv_istore (lv' := [(11, .int 0), (9, .long (lN GG)), (8, .int (nI j)), (7, .int 1), (6, .int (nI d)), (5, .int (nI (sumN sh n))), (0, .ref (ad2 0 0)), (1, .int (nI ce)), (2, .ref (aa 0)), (3, .ref (aa 1)), (4, .ref (aa 3))]) C.1 C.2.1 dL_pays_139 hl (by decide) rfl (fun ls hl => ?_)
                          refine lv_iload C.1 C.2.1 dL_pays_141 (lv_at hl 0 rfl) ?_
                          refine lv_if_eq (tgt := 158) C.1 C.2.1 dL_pays_143 (by decide) (fun c143 => ?_) (fun c143 => ?_)
                          · refine lv_iconst (v := 0) C.1 C.2.1 dL_pays_158 (by decide) ?_
                            refine lv_istore (lv' := [(12, .int 0), (11, .int 0), (9, .long (lN GG)), (8, .int (nI j)), (7, .int 1), (6, .int (nI d)), (5, .int (nI (sumN sh n))), (0, .ref (ad2 0 0)), (1, .int (nI ce)), (2, .ref (aa 0)), (3, .ref (aa 1)), (4, .ref (aa 3))]) C.1 C.2.1 dL_pays_159 hl (by decide) rfl (fun ls hl => ?_)
                            refine lv_aload_n C.1 C.2.1 dL_pays_161 rfl (lv_at hl 9 rfl) ?_
                            refine lv_iload C.1 C.2.1 dL_pays_162 (lv_at hl 3 rfl) ?_
                            refine hv_laldN (i := j) C I fH (by omega) (by decide) dL_pays_164 ?_
                            refine lv_bipush (v := 25) C.1 C.2.1 dL_pays_165 (by decide) ?_
                            refine lv_bipush (v := 15) C.1 C.2.1 dL_pays_167 (by decide) ?_
                            refine hv_ki I (va_runS (As := [.long (hF j), .int 25, .int 15]) (rest := []) C.fix (c_L_part l G u_2 _ (hF j) 25 15 (v := nI (fo j)) hKj.2.1.2.2.2.1) (va_cwS 3 C.2.2.2.2.1 gL_pays_L_part rfl rfl rfl (by decide +kernel) ⟨Nat.le_of_ble_eq_true rfl, Nat.le_of_ble_eq_true rfl⟩) (hv_preS C I) rfl rfl hl.1 rfl (lv_room (Nat.le_of_ble_eq_true rfl)) dL_pays_169 ⟨by show _ ≤ 700; omega, by show _ ≤ 3400; omega⟩) (fun ru_15 u_15 H locs pu_15 I => ?_)
                            obtain ⟨e1, e2⟩ := pu_15; have e1 := e1.symm; subst e1; have e2 := e2.symm; subst e2
                            refine lv_aload C.1 C.2.1 dL_pays_172 (lv_at hl 11 rfl) ?_
                            refine lv_iconst (v := 0) C.1 C.2.1 dL_pays_174 (by decide) ?_
                            refine hv_ialdN (i := 0) C I fC (by decide) (by decide) dL_pays_175 ?_
                            refine lv_topi (fun z_16 ez_16 => ?_)
                            have ez_16 := ez_16.trans (show _ = nI t by exact ec0)
                            subst ez_16
                            refine lv_icmp_le (tgt := 183) C.1 C.2.1 dL_pays_176 (by decide) (fun c176 => ?_) (fun c176 => ?_)
                            · have c176 : fo j ≤ t := (nI_leI (a := fo j) (b := t) (by omega) (by omega)).mp c176
                              refine lv_iconst (v := 0) C.1 C.2.1 dL_pays_183 (by decide) ?_
                              refine lv_istore (lv' := [(13, .int 0), (12, .int 0), (11, .int 0), (9, .long (lN GG)), (8, .int (nI j)), (7, .int 1), (6, .int (nI d)), (5, .int (nI (sumN sh n))), (0, .ref (ad2 0 0)), (1, .int (nI ce)), (2, .ref (aa 0)), (3, .ref (aa 1)), (4, .ref (aa 3))]) C.1 C.2.1 dL_pays_184 hl (by decide) rfl (fun ls hl => ?_)
                              refine lv_aload_n C.1 C.2.1 dL_pays_186 rfl (lv_at hl 8 rfl) ?_
                              refine lv_iload C.1 C.2.1 dL_pays_187 (lv_at hl 6 rfl) ?_
                              refine lv_iload C.1 C.2.1 dL_pays_189 (lv_at hl 4 rfl) ?_
                              refine hv_ki I (va_runV (As := [.int (nI d), .int (nI j)]) (rest := []) C.fix (k_gross l hlt G u_2 _ (isD_le (cut_le aa u_2) hD) bn (Nat.le_refl _) (by omega) hP1.2.1 (Nat.lt_succ_self d) hj97 (v := nI GG) e12) (cwV 2 C.2.2.2.2.1 gL_pays_X4_gross rfl rfl rfl (by decide +kernel) ⟨Nat.le_of_ble_eq_true rfl, Nat.le_of_ble_eq_true rfl⟩) (hv_preV C I (isD_0 (isD_le (cut_le aa u_2) hD)) (r := (RX4, TX4, 6)) rfl) rfl rfl hl.1 rfl (lv_room (Nat.le_of_ble_eq_true rfl)) dL_pays_191 ⟨by show _ ≤ 700; omega, by show _ ≤ 3400; omega⟩) (fun ru_17 u_17 H locs pu_17 I => ?_)
                              obtain ⟨e1, e2⟩ := pu_17; have e1 := e1.symm; subst e1; have e2 := e2.symm; subst e2
                              refine lv_i2l C.1 C.2.1 dL_pays_194 rfl ?_
                              refine lv_topl (fun z_18 ez_18 => ?_)
                              have ez_18 := ez_18.trans (show _ = lN GG by exact nI_l (n := GG) (by omega))
                              subst ez_18
                              refine lv_lload C.1 C.2.1 dL_pays_195 (lv_at hl 3 rfl) ?_
                              refine W.lcmp C.1 C.2.1 dL_pays_197 ?_
                              refine lv_topi (fun z_19 ez_19 => ?_)
                              have ez_19 := ez_19.trans (show _ = 0 by exact lcmp_eq (rfl))
                              subst ez_19
                              refine lv_if_ne (tgt := 266) C.1 C.2.1 dL_pays_198 (by decide) (fun c198 => ?_) (fun c198 => ?_)
                              · exact absurd rfl c198
                              · refine lv_iload C.1 C.2.1 dL_pays_201 (lv_at hl 2 rfl) ?_
                                refine lv_if_eq (tgt := 262) C.1 C.2.1 dL_pays_203 (by decide) (fun c203 => ?_) (fun c203 => ?_)
                                · refine lv_iconst (v := 1) C.1 C.2.1 dL_pays_262 (by decide) ?_
                                  refine lv_goto (tgt := 267) C.1 C.2.1 dL_pays_263 (by decide) ?_
                                  refine lv_istore (lv' := [(7, .int 1), (13, .int 0), (12, .int 0), (11, .int 0), (9, .long (lN GG)), (8, .int (nI j)), (6, .int (nI d)), (5, .int (nI (sumN sh n))), (0, .ref (ad2 0 0)), (1, .int (nI ce)), (2, .ref (aa 0)), (3, .ref (aa 1)), (4, .ref (aa 3))]) C.1 C.2.1 dL_pays_267 hl (by decide) rfl (fun ls hl => ?_)
                                  refine lv_iload C.1 C.2.1 dL_pays_269 (lv_at hl 0 rfl) ?_
                                  refine lv_if_eq (tgt := 315) C.1 C.2.1 dL_pays_271 (by decide) (fun c271 => ?_) (fun c271 => ?_)
                                  · exact absurd c271 (by decide)
                                  · refine lv_iload C.1 C.2.1 dL_pays_274 (lv_at hl 3 rfl) ?_
                                    refine lv_if_ne (tgt := 311) C.1 C.2.1 dL_pays_276 (by decide) (fun c276 => ?_) (fun c276 => ?_)
                                    · exact absurd rfl c276
                                    · refine lv_iload C.1 C.2.1 dL_pays_279 (lv_at hl 1 rfl) ?_
                                      refine lv_if_ne (tgt := 311) C.1 C.2.1 dL_pays_281 (by decide) (fun c281 => ?_) (fun c281 => ?_)
                                      · exact absurd rfl c281
                                      · refine lv_lload C.1 C.2.1 dL_pays_284 (lv_at hl 4 rfl) ?_
                                        refine lv_ldc2 C.1 C.2.1 C.2.2.2.1 (C.ts (w := .constantLong RL 77 (30)) (by decide +kernel)) dL_pays_286 ?_
                                        refine lv_lmul C.1 C.2.1 dL_pays_289 ?_
                                        refine lv_topl (fun z_20 ez_20 => ?_)
                                        have ez_20 := ez_20.trans (show _ = lN (GG * 30) by exact lN_mul GG 30)
                                        subst ez_20
                                        refine lv_ldc2 C.1 C.2.1 C.2.2.2.1 (C.ts (w := .constantLong RL 79 (100)) (by decide +kernel)) dL_pays_290 ?_
                                        refine lv_ldiv C.1 C.2.1 dL_pays_293 (by decide) ?_
                                        refine lv_topl (fun z_21 ez_21 => ?_)
                                        have ez_21 := ez_21.trans (show _ = lN ((GG * 30) / 100) by exact pk_lDiv (a := GG * 30) (b := 100) (by omega) (by decide) (by decide))
                                        subst ez_21
                                        refine lv_aload_n C.1 C.2.1 dL_pays_294 rfl (lv_at hl 8 rfl) ?_
                                        refine lv_iload C.1 C.2.1 dL_pays_295 (lv_at hl 6 rfl) ?_
                                        refine lv_iload C.1 C.2.1 dL_pays_297 (lv_at hl 5 rfl) ?_
                                        refine hv_ki I (va_runV (As := [.int (nI d), .int (nI j)]) (rest := [.long (lN ((GG * 30) / 100))]) C.fix (k_held l hlt G u_2 _ (isD_le (cut_le aa u_2) hD) bn (Nat.le_refl _) (by omega) hP1.2.1 (Nat.lt_succ_self d) hj97 (v := nI HH) r2) (cwV 2 C.2.2.2.2.1 gL_pays_X4_held rfl rfl rfl (by decide +kernel) ⟨Nat.le_of_ble_eq_true rfl, Nat.le_of_ble_eq_true rfl⟩) (hv_preV C I (isD_0 (isD_le (cut_le aa u_2) hD)) (r := (RX4, TX4, 6)) rfl) rfl rfl hl.1 rfl (lv_room (Nat.le_of_ble_eq_true rfl)) dL_pays_299 ⟨by show _ ≤ 700; omega, by show _ ≤ 3400; omega⟩) (fun ru_22 u_22 H locs pu_22 I => ?_)
                                        obtain ⟨e1, e2⟩ := pu_22; have e1 := e1.symm; subst e1; have e2 := e2.symm; subst e2
                                        refine lv_i2l C.1 C.2.1 dL_pays_302 rfl ?_
                                        refine lv_topl (fun z_23 ez_23 => ?_)
                                        have ez_23 := ez_23.trans (show _ = lN HH by exact nI_l (n := HH) (by omega))
                                        subst ez_23
                                        refine lv_lsub C.1 C.2.1 dL_pays_303 ?_
                                        refine lv_topl (fun z_24 ez_24 => ?_)
                                        have ez_24 := ez_24.trans (show _ = lN (((GG * 30) / 100) - HH) by exact lN_sub (a := ((GG * 30) / 100)) (b := HH) (by omega))
                                        subst ez_24
                                        refine lv_ldc2 C.1 C.2.1 C.2.2.2.1 (C.ts (w := .constantLong RL 88 (20)) (by decide +kernel)) dL_pays_304 ?_
                                        refine W.lcmp C.1 C.2.1 dL_pays_307 ?_
                                        refine lv_if_ge (tgt := 315) C.1 C.2.1 dL_pays_308 (by decide) (fun c308 => ?_) (fun c308 => ?_)
                                        · exact absurd ((lcmp_N (a := GG * 30 / 100 - HH) (b := 20) (by omega) (by omega)).2.1.mp c308) (by have := r4 (by omega) (by omega); omega)
                                        · refine lv_iconst (v := 1) C.1 C.2.1 dL_pays_311 (by decide) ?_
                                          refine lv_goto (tgt := 316) C.1 C.2.1 dL_pays_312 (by decide) ?_
                                          refine lv_istore (lv' := [(7, .int 1), (13, .int 0), (12, .int 0), (11, .int 0), (9, .long (lN GG)), (8, .int (nI j)), (6, .int (nI d)), (5, .int (nI (sumN sh n))), (0, .ref (ad2 0 0)), (1, .int (nI ce)), (2, .ref (aa 0)), (3, .ref (aa 1)), (4, .ref (aa 3))]) C.1 C.2.1 dL_pays_316 hl (by decide) rfl (fun ls hl => ?_)
                                          refine lv_iinc (v := nI (j + 1)) (lv' := [(8, .int (nI (j + 1))), (7, .int 1), (13, .int 0), (12, .int 0), (11, .int 0), (9, .long (lN GG)), (6, .int (nI d)), (5, .int (nI (sumN sh n))), (0, .ref (ad2 0 0)), (1, .int (nI ce)), (2, .ref (aa 0)), (3, .ref (aa 1)), (4, .ref (aa 3))]) C.1 C.2.1 dL_pays_318 hl (k := 5) rfl (nI_1 j) (by decide) rfl (fun ls hl => ?_)
                                          refine lv_goto (tgt := 91) C.1 C.2.1 dL_pays_321 (by decide) ?_
                                          refine W.widen (k := 503 + 8 * (j + 1)) (n := 2332 + 48 * (j + 1)) (by omega) (by omega) ?_
                                          exact loop2_ih (j + 1) (by omega) (by omega)  _ _ I ls (lv_sub hl [0, 1, 6, 7, 8, 9, 10, 11, 12] rfl)
                                · exact absurd rfl c203
                            · have c176 : ¬ (fo j ≤ t) := fun z => c176 ((nI_leI (a := fo j) (b := t) (by omega) (by omega)).mpr z)
                              refine lv_iconst (v := 1) C.1 C.2.1 dL_pays_179 (by decide) ?_
                              refine lv_goto (tgt := 184) C.1 C.2.1 dL_pays_180 (by decide) ?_
                              refine lv_istore (lv' := [(13, .int 1), (12, .int 0), (11, .int 0), (9, .long (lN GG)), (8, .int (nI j)), (7, .int 1), (6, .int (nI d)), (5, .int (nI (sumN sh n))), (0, .ref (ad2 0 0)), (1, .int (nI ce)), (2, .ref (aa 0)), (3, .ref (aa 1)), (4, .ref (aa 3))]) C.1 C.2.1 dL_pays_184 hl (by decide) rfl (fun ls hl => ?_)
                              refine lv_aload_n C.1 C.2.1 dL_pays_186 rfl (lv_at hl 8 rfl) ?_
                              refine lv_iload C.1 C.2.1 dL_pays_187 (lv_at hl 6 rfl) ?_
                              refine lv_iload C.1 C.2.1 dL_pays_189 (lv_at hl 4 rfl) ?_
                              refine hv_ki I (va_runV (As := [.int (nI d), .int (nI j)]) (rest := []) C.fix (k_gross l hlt G u_2 _ (isD_le (cut_le aa u_2) hD) bn (Nat.le_refl _) (by omega) hP1.2.1 (Nat.lt_succ_self d) hj97 (v := nI GG) e12) (cwV 2 C.2.2.2.2.1 gL_pays_X4_gross rfl rfl rfl (by decide +kernel) ⟨Nat.le_of_ble_eq_true rfl, Nat.le_of_ble_eq_true rfl⟩) (hv_preV C I (isD_0 (isD_le (cut_le aa u_2) hD)) (r := (RX4, TX4, 6)) rfl) rfl rfl hl.1 rfl (lv_room (Nat.le_of_ble_eq_true rfl)) dL_pays_191 ⟨by show _ ≤ 700; omega, by show _ ≤ 3400; omega⟩) (fun ru_25 u_25 H locs pu_25 I => ?_)
                              obtain ⟨e1, e2⟩ := pu_25; have e1 := e1.symm; subst e1; have e2 := e2.symm; subst e2
                              refine lv_i2l C.1 C.2.1 dL_pays_194 rfl ?_
                              refine lv_topl (fun z_26 ez_26 => ?_)
                              have ez_26 := ez_26.trans (show _ = lN GG by exact nI_l (n := GG) (by omega))
                              subst ez_26
                              refine lv_lload C.1 C.2.1 dL_pays_195 (lv_at hl 3 rfl) ?_
                              refine W.lcmp C.1 C.2.1 dL_pays_197 ?_
                              refine lv_topi (fun z_27 ez_27 => ?_)
                              have ez_27 := ez_27.trans (show _ = 0 by exact lcmp_eq (rfl))
                              subst ez_27
                              refine lv_if_ne (tgt := 266) C.1 C.2.1 dL_pays_198 (by decide) (fun c198 => ?_) (fun c198 => ?_)
                              · exact absurd rfl c198
                              · refine lv_iload C.1 C.2.1 dL_pays_201 (lv_at hl 2 rfl) ?_
                                refine lv_if_eq (tgt := 262) C.1 C.2.1 dL_pays_203 (by decide) (fun c203 => ?_) (fun c203 => ?_)
                                · refine lv_iconst (v := 1) C.1 C.2.1 dL_pays_262 (by decide) ?_
                                  refine lv_goto (tgt := 267) C.1 C.2.1 dL_pays_263 (by decide) ?_
                                  refine lv_istore (lv' := [(7, .int 1), (13, .int 1), (12, .int 0), (11, .int 0), (9, .long (lN GG)), (8, .int (nI j)), (6, .int (nI d)), (5, .int (nI (sumN sh n))), (0, .ref (ad2 0 0)), (1, .int (nI ce)), (2, .ref (aa 0)), (3, .ref (aa 1)), (4, .ref (aa 3))]) C.1 C.2.1 dL_pays_267 hl (by decide) rfl (fun ls hl => ?_)
                                  refine lv_iload C.1 C.2.1 dL_pays_269 (lv_at hl 0 rfl) ?_
                                  refine lv_if_eq (tgt := 315) C.1 C.2.1 dL_pays_271 (by decide) (fun c271 => ?_) (fun c271 => ?_)
                                  · exact absurd c271 (by decide)
                                  · refine lv_iload C.1 C.2.1 dL_pays_274 (lv_at hl 3 rfl) ?_
                                    refine lv_if_ne (tgt := 311) C.1 C.2.1 dL_pays_276 (by decide) (fun c276 => ?_) (fun c276 => ?_)
                                    · exact absurd rfl c276
                                    · refine lv_iload C.1 C.2.1 dL_pays_279 (lv_at hl 1 rfl) ?_
                                      refine lv_if_ne (tgt := 311) C.1 C.2.1 dL_pays_281 (by decide) (fun c281 => ?_) (fun c281 => ?_)
                                      · refine lv_iconst (v := 1) C.1 C.2.1 dL_pays_311 (by decide) ?_
                                        refine lv_goto (tgt := 316) C.1 C.2.1 dL_pays_312 (by decide) ?_
                                        refine lv_istore (lv' := [(7, .int 1), (13, .int 1), (12, .int 0), (11, .int 0), (9, .long (lN GG)), (8, .int (nI j)), (6, .int (nI d)), (5, .int (nI (sumN sh n))), (0, .ref (ad2 0 0)), (1, .int (nI ce)), (2, .ref (aa 0)), (3, .ref (aa 1)), (4, .ref (aa 3))]) C.1 C.2.1 dL_pays_316 hl (by decide) rfl (fun ls hl => ?_)
                                        refine lv_iinc (v := nI (j + 1)) (lv' := [(8, .int (nI (j + 1))), (7, .int 1), (13, .int 1), (12, .int 0), (11, .int 0), (9, .long (lN GG)), (6, .int (nI d)), (5, .int (nI (sumN sh n))), (0, .ref (ad2 0 0)), (1, .int (nI ce)), (2, .ref (aa 0)), (3, .ref (aa 1)), (4, .ref (aa 3))]) C.1 C.2.1 dL_pays_318 hl (k := 5) rfl (nI_1 j) (by decide) rfl (fun ls hl => ?_)
                                        refine lv_goto (tgt := 91) C.1 C.2.1 dL_pays_321 (by decide) ?_
                                        refine W.widen (k := 503 + 8 * (j + 1)) (n := 2332 + 48 * (j + 1)) (by omega) (by omega) ?_
                                        exact loop2_ih (j + 1) (by omega) (by omega)  _ _ I ls (lv_sub hl [0, 1, 6, 7, 8, 9, 10, 11, 12] rfl)
                                      · exact absurd c281 (by decide)
                                · exact absurd rfl c203
                          · exact absurd rfl c143
                        · have c131 : ¬ (2 ≤ kd j) := fun z => c131 ((nI_leI (a := 2) (b := kd j) (by omega) (by omega)).mpr z)
                          obtain ⟨r5, r6⟩ := r1 (by omega)
                          obtain ⟨RR, hRR⟩ : ∃ z, z = rtN (lgB (kd j) (sh j) (si j) t) (g (ld j - 1)) (la (ld j - 1)) := ⟨_, rfl⟩
                          have hR30 : RR ≤ 30 := by rw [hRR]; exact rtN_le (hR (ld j - 1) (by omega)).1.2.2
                          rw [← hRR] at r5 r6
                          have hGR : GG * RR ≤ 1000000000 * 30 := Nat.mul_le_mul hA9 hR30
                          refine lv_iconst (v := 1) C.1 C.2.1 dL_pays_134 (by decide) ?_
                          refine lv_goto (tgt := 139) C.1 C.2.1 dL_pays_135 (by decide) ?_
                          refine lv_istore (lv' := [(11, .int 1), (9, .long (lN GG)), (8, .int (nI j)), (7, .int 1), (6, .int (nI d)), (5, .int (nI (sumN sh n))), (0, .ref (ad2 0 0)), (1, .int (nI ce)), (2, .ref (aa 0)), (3, .ref (aa 1)), (4, .ref (aa 3))]) C.1 C.2.1 dL_pays_139 hl (by decide) rfl (fun ls hl => ?_)
                          refine lv_iload C.1 C.2.1 dL_pays_141 (lv_at hl 0 rfl) ?_
                          refine lv_if_eq (tgt := 158) C.1 C.2.1 dL_pays_143 (by decide) (fun c143 => ?_) (fun c143 => ?_)
                          · exact absurd c143 (by decide)
                          · refine lv_aload_n C.1 C.2.1 dL_pays_146 rfl (lv_at hl 8 rfl) ?_
                            refine lv_aload_n C.1 C.2.1 dL_pays_147 rfl (lv_at hl 9 rfl) ?_
                            refine lv_aload C.1 C.2.1 dL_pays_148 (lv_at hl 10 rfl) ?_
                            refine lv_iload C.1 C.2.1 dL_pays_150 (lv_at hl 2 rfl) ?_
                            refine hv_ki I (va_runS (As := [.ref (aa 0), .ref (aa 1), .ref (aa 3), .int (nI j)]) (rest := []) C.fix (c_L_rate l G u_2 _ fH fT fC (by omega) hKj ec0 bt hR (by omega)) (va_cwS 4 C.2.2.2.2.1 gL_pays_L_rate rfl rfl rfl (by decide +kernel) ⟨Nat.le_of_ble_eq_true rfl, Nat.le_of_ble_eq_true rfl⟩) (hv_preS C I) rfl rfl hl.1 rfl (lv_room (Nat.le_of_ble_eq_true rfl)) dL_pays_152 ⟨by show _ ≤ 700; omega, by show _ ≤ 3400; omega⟩) (fun ru_28 u_28 H locs pu_28 I => ?_)
                            obtain ⟨e1, e2⟩ := pu_28; have e1 := e1.symm; subst e1; have e2 := e2.symm; subst e2
                            refine lv_topi (fun z_29 ez_29 => ?_)
                            have ez_29 := ez_29.trans (show _ = nI RR by rw [hRR])
                            subst ez_29
                            refine lv_goto (tgt := 159) C.1 C.2.1 dL_pays_155 (by decide) ?_
                            refine lv_istore (lv' := [(12, .int (nI RR)), (11, .int 1), (9, .long (lN GG)), (8, .int (nI j)), (7, .int 1), (6, .int (nI d)), (5, .int (nI (sumN sh n))), (0, .ref (ad2 0 0)), (1, .int (nI ce)), (2, .ref (aa 0)), (3, .ref (aa 1)), (4, .ref (aa 3))]) C.1 C.2.1 dL_pays_159 hl (by decide) rfl (fun ls hl => ?_)
                            refine lv_aload_n C.1 C.2.1 dL_pays_161 rfl (lv_at hl 9 rfl) ?_
                            refine lv_iload C.1 C.2.1 dL_pays_162 (lv_at hl 3 rfl) ?_
                            refine hv_laldN (i := j) C I fH (by omega) (by decide) dL_pays_164 ?_
                            refine lv_bipush (v := 25) C.1 C.2.1 dL_pays_165 (by decide) ?_
                            refine lv_bipush (v := 15) C.1 C.2.1 dL_pays_167 (by decide) ?_
                            refine hv_ki I (va_runS (As := [.long (hF j), .int 25, .int 15]) (rest := []) C.fix (c_L_part l G u_2 _ (hF j) 25 15 (v := nI (fo j)) hKj.2.1.2.2.2.1) (va_cwS 3 C.2.2.2.2.1 gL_pays_L_part rfl rfl rfl (by decide +kernel) ⟨Nat.le_of_ble_eq_true rfl, Nat.le_of_ble_eq_true rfl⟩) (hv_preS C I) rfl rfl hl.1 rfl (lv_room (Nat.le_of_ble_eq_true rfl)) dL_pays_169 ⟨by show _ ≤ 700; omega, by show _ ≤ 3400; omega⟩) (fun ru_30 u_30 H locs pu_30 I => ?_)
                            obtain ⟨e1, e2⟩ := pu_30; have e1 := e1.symm; subst e1; have e2 := e2.symm; subst e2
                            refine lv_aload C.1 C.2.1 dL_pays_172 (lv_at hl 11 rfl) ?_
                            refine lv_iconst (v := 0) C.1 C.2.1 dL_pays_174 (by decide) ?_
                            refine hv_ialdN (i := 0) C I fC (by decide) (by decide) dL_pays_175 ?_
                            refine lv_topi (fun z_31 ez_31 => ?_)
                            have ez_31 := ez_31.trans (show _ = nI t by exact ec0)
                            subst ez_31
                            refine lv_icmp_le (tgt := 183) C.1 C.2.1 dL_pays_176 (by decide) (fun c176 => ?_) (fun c176 => ?_)
                            · have c176 : fo j ≤ t := (nI_leI (a := fo j) (b := t) (by omega) (by omega)).mp c176
                              refine lv_iconst (v := 0) C.1 C.2.1 dL_pays_183 (by decide) ?_
                              refine lv_istore (lv' := [(13, .int 0), (12, .int (nI RR)), (11, .int 1), (9, .long (lN GG)), (8, .int (nI j)), (7, .int 1), (6, .int (nI d)), (5, .int (nI (sumN sh n))), (0, .ref (ad2 0 0)), (1, .int (nI ce)), (2, .ref (aa 0)), (3, .ref (aa 1)), (4, .ref (aa 3))]) C.1 C.2.1 dL_pays_184 hl (by decide) rfl (fun ls hl => ?_)
                              refine lv_aload_n C.1 C.2.1 dL_pays_186 rfl (lv_at hl 8 rfl) ?_
                              refine lv_iload C.1 C.2.1 dL_pays_187 (lv_at hl 6 rfl) ?_
                              refine lv_iload C.1 C.2.1 dL_pays_189 (lv_at hl 4 rfl) ?_
                              refine hv_ki I (va_runV (As := [.int (nI d), .int (nI j)]) (rest := []) C.fix (k_gross l hlt G u_2 _ (isD_le (cut_le aa u_2) hD) bn (Nat.le_refl _) (by omega) hP1.2.1 (Nat.lt_succ_self d) hj97 (v := nI GG) e12) (cwV 2 C.2.2.2.2.1 gL_pays_X4_gross rfl rfl rfl (by decide +kernel) ⟨Nat.le_of_ble_eq_true rfl, Nat.le_of_ble_eq_true rfl⟩) (hv_preV C I (isD_0 (isD_le (cut_le aa u_2) hD)) (r := (RX4, TX4, 6)) rfl) rfl rfl hl.1 rfl (lv_room (Nat.le_of_ble_eq_true rfl)) dL_pays_191 ⟨by show _ ≤ 700; omega, by show _ ≤ 3400; omega⟩) (fun ru_32 u_32 H locs pu_32 I => ?_)
                              obtain ⟨e1, e2⟩ := pu_32; have e1 := e1.symm; subst e1; have e2 := e2.symm; subst e2
                              refine lv_i2l C.1 C.2.1 dL_pays_194 rfl ?_
                              refine lv_topl (fun z_33 ez_33 => ?_)
                              have ez_33 := ez_33.trans (show _ = lN GG by exact nI_l (n := GG) (by omega))
                              subst ez_33
                              refine lv_lload C.1 C.2.1 dL_pays_195 (lv_at hl 3 rfl) ?_
                              refine W.lcmp C.1 C.2.1 dL_pays_197 ?_
                              refine lv_topi (fun z_34 ez_34 => ?_)
                              have ez_34 := ez_34.trans (show _ = 0 by exact lcmp_eq (rfl))
                              subst ez_34
                              refine lv_if_ne (tgt := 266) C.1 C.2.1 dL_pays_198 (by decide) (fun c198 => ?_) (fun c198 => ?_)
                              · exact absurd rfl c198
                              · refine lv_iload C.1 C.2.1 dL_pays_201 (lv_at hl 2 rfl) ?_
                                refine lv_if_eq (tgt := 262) C.1 C.2.1 dL_pays_203 (by decide) (fun c203 => ?_) (fun c203 => ?_)
                                · exact absurd c203 (by decide)
                                · refine lv_aload_n C.1 C.2.1 dL_pays_206 rfl (lv_at hl 8 rfl) ?_
                                  refine lv_iload C.1 C.2.1 dL_pays_207 (lv_at hl 6 rfl) ?_
                                  refine lv_iload C.1 C.2.1 dL_pays_209 (lv_at hl 4 rfl) ?_
                                  refine hv_ki I (va_runV (As := [.int (nI d), .int (nI j)]) (rest := []) C.fix (k_due l hlt G u_2 _ (isD_le (cut_le aa u_2) hD) bn (Nat.le_refl _) (by omega) hP1.2.1 (Nat.lt_succ_self d) hj97 (v := nI (GG * RR / 100)) r5) (cwV 2 C.2.2.2.2.1 gL_pays_X4_due rfl rfl rfl (by decide +kernel) ⟨Nat.le_of_ble_eq_true rfl, Nat.le_of_ble_eq_true rfl⟩) (hv_preV C I (isD_0 (isD_le (cut_le aa u_2) hD)) (r := (RX4, TX4, 6)) rfl) rfl rfl hl.1 rfl (lv_room (Nat.le_of_ble_eq_true rfl)) dL_pays_211 ⟨by show _ ≤ 700; omega, by show _ ≤ 3400; omega⟩) (fun ru_35 u_35 H locs pu_35 I => ?_)
                                  obtain ⟨e1, e2⟩ := pu_35; have e1 := e1.symm; subst e1; have e2 := e2.symm; subst e2
                                  refine lv_i2l C.1 C.2.1 dL_pays_214 rfl ?_
                                  refine lv_topl (fun z_36 ez_36 => ?_)
                                  have ez_36 := ez_36.trans (show _ = lN (GG * RR / 100) by exact nI_l (n := GG * RR / 100) (by omega))
                                  subst ez_36
                                  refine lv_lload C.1 C.2.1 dL_pays_215 (lv_at hl 3 rfl) ?_
                                  refine lv_iload C.1 C.2.1 dL_pays_217 (lv_at hl 1 rfl) ?_
                                  refine lv_i2l C.1 C.2.1 dL_pays_219 rfl ?_
                                  refine lv_topl (fun z_37 ez_37 => ?_)
                                  have ez_37 := ez_37.trans (show _ = lN RR by exact nI_l (n := RR) (by omega))
                                  subst ez_37
                                  refine lv_lmul C.1 C.2.1 dL_pays_220 ?_
                                  refine lv_topl (fun z_38 ez_38 => ?_)
                                  have ez_38 := ez_38.trans (show _ = lN (GG * RR) by exact lN_mul GG RR)
                                  subst ez_38
                                  refine lv_ldc2 C.1 C.2.1 C.2.2.2.1 (C.ts (w := .constantLong RL 79 (100)) (by decide +kernel)) dL_pays_221 ?_
                                  refine lv_ldiv C.1 C.2.1 dL_pays_224 (by decide) ?_
                                  refine lv_topl (fun z_39 ez_39 => ?_)
                                  have ez_39 := ez_39.trans (show _ = lN ((GG * RR) / 100) by exact pk_lDiv (a := GG * RR) (b := 100) (by omega) (by decide) (by decide))
                                  subst ez_39
                                  refine W.lcmp C.1 C.2.1 dL_pays_225 ?_
                                  refine lv_topi (fun z_40 ez_40 => ?_)
                                  have ez_40 := ez_40.trans (show _ = 0 by exact lcmp_eq (rfl))
                                  subst ez_40
                                  refine lv_if_ne (tgt := 266) C.1 C.2.1 dL_pays_226 (by decide) (fun c226 => ?_) (fun c226 => ?_)
                                  · exact absurd rfl c226
                                  · refine lv_aload_n C.1 C.2.1 dL_pays_229 rfl (lv_at hl 8 rfl) ?_
                                    refine lv_iload C.1 C.2.1 dL_pays_230 (lv_at hl 6 rfl) ?_
                                    refine lv_iload C.1 C.2.1 dL_pays_232 (lv_at hl 4 rfl) ?_
                                    refine hv_ki I (va_runV (As := [.int (nI d), .int (nI j)]) (rest := []) C.fix (k_held l hlt G u_2 _ (isD_le (cut_le aa u_2) hD) bn (Nat.le_refl _) (by omega) hP1.2.1 (Nat.lt_succ_self d) hj97 (v := nI (GG * 30 / 100)) (by rw [if_neg (show ¬ t < fo j by omega)] at r6; exact r6)) (cwV 2 C.2.2.2.2.1 gL_pays_X4_held rfl rfl rfl (by decide +kernel) ⟨Nat.le_of_ble_eq_true rfl, Nat.le_of_ble_eq_true rfl⟩) (hv_preV C I (isD_0 (isD_le (cut_le aa u_2) hD)) (r := (RX4, TX4, 6)) rfl) rfl rfl hl.1 rfl (lv_room (Nat.le_of_ble_eq_true rfl)) dL_pays_234 ⟨by show _ ≤ 700; omega, by show _ ≤ 3400; omega⟩) (fun ru_41 u_41 H locs pu_41 I => ?_)
                                    obtain ⟨e1, e2⟩ := pu_41; have e1 := e1.symm; subst e1; have e2 := e2.symm; subst e2
                                    refine lv_i2l C.1 C.2.1 dL_pays_237 rfl ?_
                                    refine lv_topl (fun z_42 ez_42 => ?_)
                                    have ez_42 := ez_42.trans (show _ = lN (GG * 30 / 100) by exact nI_l (n := GG * 30 / 100) (by omega))
                                    subst ez_42
                                    refine lv_lload C.1 C.2.1 dL_pays_238 (lv_at hl 3 rfl) ?_
                                    refine lv_iload C.1 C.2.1 dL_pays_240 (lv_at hl 0 rfl) ?_
                                    refine lv_if_eq (tgt := 250) C.1 C.2.1 dL_pays_242 (by decide) (fun c242 => ?_) (fun c242 => ?_)
                                    · refine lv_bipush (v := 30) C.1 C.2.1 dL_pays_250 (by decide) ?_
                                      refine lv_i2l C.1 C.2.1 dL_pays_252 rfl ?_
                                      refine lv_topl (fun z_43 ez_43 => ?_)
                                      have ez_43 := ez_43.trans (show _ = lN 30 by exact nI_l (n := 30) (by omega))
                                      subst ez_43
                                      refine lv_lmul C.1 C.2.1 dL_pays_253 ?_
                                      refine lv_topl (fun z_44 ez_44 => ?_)
                                      have ez_44 := ez_44.trans (show _ = lN (GG * 30) by exact lN_mul GG 30)
                                      subst ez_44
                                      refine lv_ldc2 C.1 C.2.1 C.2.2.2.1 (C.ts (w := .constantLong RL 79 (100)) (by decide +kernel)) dL_pays_254 ?_
                                      refine lv_ldiv C.1 C.2.1 dL_pays_257 (by decide) ?_
                                      refine lv_topl (fun z_45 ez_45 => ?_)
                                      have ez_45 := ez_45.trans (show _ = lN ((GG * 30) / 100) by exact pk_lDiv (a := GG * 30) (b := 100) (by omega) (by decide) (by decide))
                                      subst ez_45
                                      refine W.lcmp C.1 C.2.1 dL_pays_258 ?_
                                      refine lv_topi (fun z_46 ez_46 => ?_)
                                      have ez_46 := ez_46.trans (show _ = 0 by exact lcmp_eq (rfl))
                                      subst ez_46
                                      refine lv_if_ne (tgt := 266) C.1 C.2.1 dL_pays_259 (by decide) (fun c259 => ?_) (fun c259 => ?_)
                                      · exact absurd rfl c259
                                      · refine lv_iconst (v := 1) C.1 C.2.1 dL_pays_262 (by decide) ?_
                                        refine lv_goto (tgt := 267) C.1 C.2.1 dL_pays_263 (by decide) ?_
                                        refine lv_istore (lv' := [(7, .int 1), (13, .int 0), (12, .int (nI RR)), (11, .int 1), (9, .long (lN GG)), (8, .int (nI j)), (6, .int (nI d)), (5, .int (nI (sumN sh n))), (0, .ref (ad2 0 0)), (1, .int (nI ce)), (2, .ref (aa 0)), (3, .ref (aa 1)), (4, .ref (aa 3))]) C.1 C.2.1 dL_pays_267 hl (by decide) rfl (fun ls hl => ?_)
                                        refine lv_iload C.1 C.2.1 dL_pays_269 (lv_at hl 0 rfl) ?_
                                        refine lv_if_eq (tgt := 315) C.1 C.2.1 dL_pays_271 (by decide) (fun c271 => ?_) (fun c271 => ?_)
                                        · exact absurd c271 (by decide)
                                        · refine lv_iload C.1 C.2.1 dL_pays_274 (lv_at hl 3 rfl) ?_
                                          refine lv_if_ne (tgt := 311) C.1 C.2.1 dL_pays_276 (by decide) (fun c276 => ?_) (fun c276 => ?_)
                                          · refine lv_iconst (v := 1) C.1 C.2.1 dL_pays_311 (by decide) ?_
                                            refine lv_goto (tgt := 316) C.1 C.2.1 dL_pays_312 (by decide) ?_
                                            refine lv_istore (lv' := [(7, .int 1), (13, .int 0), (12, .int (nI RR)), (11, .int 1), (9, .long (lN GG)), (8, .int (nI j)), (6, .int (nI d)), (5, .int (nI (sumN sh n))), (0, .ref (ad2 0 0)), (1, .int (nI ce)), (2, .ref (aa 0)), (3, .ref (aa 1)), (4, .ref (aa 3))]) C.1 C.2.1 dL_pays_316 hl (by decide) rfl (fun ls hl => ?_)
                                            refine lv_iinc (v := nI (j + 1)) (lv' := [(8, .int (nI (j + 1))), (7, .int 1), (13, .int 0), (12, .int (nI RR)), (11, .int 1), (9, .long (lN GG)), (6, .int (nI d)), (5, .int (nI (sumN sh n))), (0, .ref (ad2 0 0)), (1, .int (nI ce)), (2, .ref (aa 0)), (3, .ref (aa 1)), (4, .ref (aa 3))]) C.1 C.2.1 dL_pays_318 hl (k := 5) rfl (nI_1 j) (by decide) rfl (fun ls hl => ?_)
                                            refine lv_goto (tgt := 91) C.1 C.2.1 dL_pays_321 (by decide) ?_
                                            refine W.widen (k := 503 + 8 * (j + 1)) (n := 2332 + 48 * (j + 1)) (by omega) (by omega) ?_
                                            exact loop2_ih (j + 1) (by omega) (by omega)  _ _ I ls (lv_sub hl [0, 1, 6, 7, 8, 9, 10, 11, 12] rfl)
                                          · exact absurd c276 (by decide)
                                    · exact absurd rfl c242
                            · have c176 : ¬ (fo j ≤ t) := fun z => c176 ((nI_leI (a := fo j) (b := t) (by omega) (by omega)).mpr z)
                              refine lv_iconst (v := 1) C.1 C.2.1 dL_pays_179 (by decide) ?_
                              refine lv_goto (tgt := 184) C.1 C.2.1 dL_pays_180 (by decide) ?_
                              refine lv_istore (lv' := [(13, .int 1), (12, .int (nI RR)), (11, .int 1), (9, .long (lN GG)), (8, .int (nI j)), (7, .int 1), (6, .int (nI d)), (5, .int (nI (sumN sh n))), (0, .ref (ad2 0 0)), (1, .int (nI ce)), (2, .ref (aa 0)), (3, .ref (aa 1)), (4, .ref (aa 3))]) C.1 C.2.1 dL_pays_184 hl (by decide) rfl (fun ls hl => ?_)
                              refine lv_aload_n C.1 C.2.1 dL_pays_186 rfl (lv_at hl 8 rfl) ?_
                              refine lv_iload C.1 C.2.1 dL_pays_187 (lv_at hl 6 rfl) ?_
                              refine lv_iload C.1 C.2.1 dL_pays_189 (lv_at hl 4 rfl) ?_
                              refine hv_ki I (va_runV (As := [.int (nI d), .int (nI j)]) (rest := []) C.fix (k_gross l hlt G u_2 _ (isD_le (cut_le aa u_2) hD) bn (Nat.le_refl _) (by omega) hP1.2.1 (Nat.lt_succ_self d) hj97 (v := nI GG) e12) (cwV 2 C.2.2.2.2.1 gL_pays_X4_gross rfl rfl rfl (by decide +kernel) ⟨Nat.le_of_ble_eq_true rfl, Nat.le_of_ble_eq_true rfl⟩) (hv_preV C I (isD_0 (isD_le (cut_le aa u_2) hD)) (r := (RX4, TX4, 6)) rfl) rfl rfl hl.1 rfl (lv_room (Nat.le_of_ble_eq_true rfl)) dL_pays_191 ⟨by show _ ≤ 700; omega, by show _ ≤ 3400; omega⟩) (fun ru_47 u_47 H locs pu_47 I => ?_)
                              obtain ⟨e1, e2⟩ := pu_47; have e1 := e1.symm; subst e1; have e2 := e2.symm; subst e2
                              refine lv_i2l C.1 C.2.1 dL_pays_194 rfl ?_
                              refine lv_topl (fun z_48 ez_48 => ?_)
                              have ez_48 := ez_48.trans (show _ = lN GG by exact nI_l (n := GG) (by omega))
                              subst ez_48
                              refine lv_lload C.1 C.2.1 dL_pays_195 (lv_at hl 3 rfl) ?_
                              refine W.lcmp C.1 C.2.1 dL_pays_197 ?_
                              refine lv_topi (fun z_49 ez_49 => ?_)
                              have ez_49 := ez_49.trans (show _ = 0 by exact lcmp_eq (rfl))
                              subst ez_49
                              refine lv_if_ne (tgt := 266) C.1 C.2.1 dL_pays_198 (by decide) (fun c198 => ?_) (fun c198 => ?_)
                              · exact absurd rfl c198
                              · refine lv_iload C.1 C.2.1 dL_pays_201 (lv_at hl 2 rfl) ?_
                                refine lv_if_eq (tgt := 262) C.1 C.2.1 dL_pays_203 (by decide) (fun c203 => ?_) (fun c203 => ?_)
                                · exact absurd c203 (by decide)
                                · refine lv_aload_n C.1 C.2.1 dL_pays_206 rfl (lv_at hl 8 rfl) ?_
                                  refine lv_iload C.1 C.2.1 dL_pays_207 (lv_at hl 6 rfl) ?_
                                  refine lv_iload C.1 C.2.1 dL_pays_209 (lv_at hl 4 rfl) ?_
                                  refine hv_ki I (va_runV (As := [.int (nI d), .int (nI j)]) (rest := []) C.fix (k_due l hlt G u_2 _ (isD_le (cut_le aa u_2) hD) bn (Nat.le_refl _) (by omega) hP1.2.1 (Nat.lt_succ_self d) hj97 (v := nI (GG * RR / 100)) r5) (cwV 2 C.2.2.2.2.1 gL_pays_X4_due rfl rfl rfl (by decide +kernel) ⟨Nat.le_of_ble_eq_true rfl, Nat.le_of_ble_eq_true rfl⟩) (hv_preV C I (isD_0 (isD_le (cut_le aa u_2) hD)) (r := (RX4, TX4, 6)) rfl) rfl rfl hl.1 rfl (lv_room (Nat.le_of_ble_eq_true rfl)) dL_pays_211 ⟨by show _ ≤ 700; omega, by show _ ≤ 3400; omega⟩) (fun ru_50 u_50 H locs pu_50 I => ?_)
                                  obtain ⟨e1, e2⟩ := pu_50; have e1 := e1.symm; subst e1; have e2 := e2.symm; subst e2
                                  refine lv_i2l C.1 C.2.1 dL_pays_214 rfl ?_
                                  refine lv_topl (fun z_51 ez_51 => ?_)
                                  have ez_51 := ez_51.trans (show _ = lN (GG * RR / 100) by exact nI_l (n := GG * RR / 100) (by omega))
                                  subst ez_51
                                  refine lv_lload C.1 C.2.1 dL_pays_215 (lv_at hl 3 rfl) ?_
                                  refine lv_iload C.1 C.2.1 dL_pays_217 (lv_at hl 1 rfl) ?_
                                  refine lv_i2l C.1 C.2.1 dL_pays_219 rfl ?_
                                  refine lv_topl (fun z_52 ez_52 => ?_)
                                  have ez_52 := ez_52.trans (show _ = lN RR by exact nI_l (n := RR) (by omega))
                                  subst ez_52
                                  refine lv_lmul C.1 C.2.1 dL_pays_220 ?_
                                  refine lv_topl (fun z_53 ez_53 => ?_)
                                  have ez_53 := ez_53.trans (show _ = lN (GG * RR) by exact lN_mul GG RR)
                                  subst ez_53
                                  refine lv_ldc2 C.1 C.2.1 C.2.2.2.1 (C.ts (w := .constantLong RL 79 (100)) (by decide +kernel)) dL_pays_221 ?_
                                  refine lv_ldiv C.1 C.2.1 dL_pays_224 (by decide) ?_
                                  refine lv_topl (fun z_54 ez_54 => ?_)
                                  have ez_54 := ez_54.trans (show _ = lN ((GG * RR) / 100) by exact pk_lDiv (a := GG * RR) (b := 100) (by omega) (by decide) (by decide))
                                  subst ez_54
                                  refine W.lcmp C.1 C.2.1 dL_pays_225 ?_
                                  refine lv_topi (fun z_55 ez_55 => ?_)
                                  have ez_55 := ez_55.trans (show _ = 0 by exact lcmp_eq (rfl))
                                  subst ez_55
                                  refine lv_if_ne (tgt := 266) C.1 C.2.1 dL_pays_226 (by decide) (fun c226 => ?_) (fun c226 => ?_)
                                  · exact absurd rfl c226
                                  · refine lv_aload_n C.1 C.2.1 dL_pays_229 rfl (lv_at hl 8 rfl) ?_
                                    refine lv_iload C.1 C.2.1 dL_pays_230 (lv_at hl 6 rfl) ?_
                                    refine lv_iload C.1 C.2.1 dL_pays_232 (lv_at hl 4 rfl) ?_
                                    refine hv_ki I (va_runV (As := [.int (nI d), .int (nI j)]) (rest := []) C.fix (k_held l hlt G u_2 _ (isD_le (cut_le aa u_2) hD) bn (Nat.le_refl _) (by omega) hP1.2.1 (Nat.lt_succ_self d) hj97 (v := nI (GG * RR / 100)) (by rw [if_pos (show t < fo j by omega)] at r6; exact r6)) (cwV 2 C.2.2.2.2.1 gL_pays_X4_held rfl rfl rfl (by decide +kernel) ⟨Nat.le_of_ble_eq_true rfl, Nat.le_of_ble_eq_true rfl⟩) (hv_preV C I (isD_0 (isD_le (cut_le aa u_2) hD)) (r := (RX4, TX4, 6)) rfl) rfl rfl hl.1 rfl (lv_room (Nat.le_of_ble_eq_true rfl)) dL_pays_234 ⟨by show _ ≤ 700; omega, by show _ ≤ 3400; omega⟩) (fun ru_56 u_56 H locs pu_56 I => ?_)
                                    obtain ⟨e1, e2⟩ := pu_56; have e1 := e1.symm; subst e1; have e2 := e2.symm; subst e2
                                    refine lv_i2l C.1 C.2.1 dL_pays_237 rfl ?_
                                    refine lv_topl (fun z_57 ez_57 => ?_)
                                    have ez_57 := ez_57.trans (show _ = lN (GG * RR / 100) by exact nI_l (n := GG * RR / 100) (by omega))
                                    subst ez_57
                                    refine lv_lload C.1 C.2.1 dL_pays_238 (lv_at hl 3 rfl) ?_
                                    refine lv_iload C.1 C.2.1 dL_pays_240 (lv_at hl 0 rfl) ?_
                                    refine lv_if_eq (tgt := 250) C.1 C.2.1 dL_pays_242 (by decide) (fun c242 => ?_) (fun c242 => ?_)
                                    · exact absurd c242 (by decide)
                                    · refine lv_iload C.1 C.2.1 dL_pays_245 (lv_at hl 1 rfl) ?_
                                      refine lv_goto (tgt := 252) C.1 C.2.1 dL_pays_247 (by decide) ?_
                                      refine lv_i2l C.1 C.2.1 dL_pays_252 rfl ?_
                                      refine lv_topl (fun z_58 ez_58 => ?_)
                                      have ez_58 := ez_58.trans (show _ = lN RR by exact nI_l (n := RR) (by omega))
                                      subst ez_58
                                      refine lv_lmul C.1 C.2.1 dL_pays_253 ?_
                                      refine lv_topl (fun z_59 ez_59 => ?_)
                                      have ez_59 := ez_59.trans (show _ = lN (GG * RR) by exact lN_mul GG RR)
                                      subst ez_59
                                      refine lv_ldc2 C.1 C.2.1 C.2.2.2.1 (C.ts (w := .constantLong RL 79 (100)) (by decide +kernel)) dL_pays_254 ?_
                                      refine lv_ldiv C.1 C.2.1 dL_pays_257 (by decide) ?_
                                      refine lv_topl (fun z_60 ez_60 => ?_)
                                      have ez_60 := ez_60.trans (show _ = lN ((GG * RR) / 100) by exact pk_lDiv (a := GG * RR) (b := 100) (by omega) (by decide) (by decide))
                                      subst ez_60
                                      refine W.lcmp C.1 C.2.1 dL_pays_258 ?_
                                      refine lv_topi (fun z_61 ez_61 => ?_)
                                      have ez_61 := ez_61.trans (show _ = 0 by exact lcmp_eq (rfl))
                                      subst ez_61
                                      refine lv_if_ne (tgt := 266) C.1 C.2.1 dL_pays_259 (by decide) (fun c259 => ?_) (fun c259 => ?_)
                                      · exact absurd rfl c259
                                      · refine lv_iconst (v := 1) C.1 C.2.1 dL_pays_262 (by decide) ?_
                                        refine lv_goto (tgt := 267) C.1 C.2.1 dL_pays_263 (by decide) ?_
                                        refine lv_istore (lv' := [(7, .int 1), (13, .int 1), (12, .int (nI RR)), (11, .int 1), (9, .long (lN GG)), (8, .int (nI j)), (6, .int (nI d)), (5, .int (nI (sumN sh n))), (0, .ref (ad2 0 0)), (1, .int (nI ce)), (2, .ref (aa 0)), (3, .ref (aa 1)), (4, .ref (aa 3))]) C.1 C.2.1 dL_pays_267 hl (by decide) rfl (fun ls hl => ?_)
                                        refine lv_iload C.1 C.2.1 dL_pays_269 (lv_at hl 0 rfl) ?_
                                        refine lv_if_eq (tgt := 315) C.1 C.2.1 dL_pays_271 (by decide) (fun c271 => ?_) (fun c271 => ?_)
                                        · exact absurd c271 (by decide)
                                        · refine lv_iload C.1 C.2.1 dL_pays_274 (lv_at hl 3 rfl) ?_
                                          refine lv_if_ne (tgt := 311) C.1 C.2.1 dL_pays_276 (by decide) (fun c276 => ?_) (fun c276 => ?_)
                                          · refine lv_iconst (v := 1) C.1 C.2.1 dL_pays_311 (by decide) ?_
                                            refine lv_goto (tgt := 316) C.1 C.2.1 dL_pays_312 (by decide) ?_
                                            refine lv_istore (lv' := [(7, .int 1), (13, .int 1), (12, .int (nI RR)), (11, .int 1), (9, .long (lN GG)), (8, .int (nI j)), (6, .int (nI d)), (5, .int (nI (sumN sh n))), (0, .ref (ad2 0 0)), (1, .int (nI ce)), (2, .ref (aa 0)), (3, .ref (aa 1)), (4, .ref (aa 3))]) C.1 C.2.1 dL_pays_316 hl (by decide) rfl (fun ls hl => ?_)
                                            refine lv_iinc (v := nI (j + 1)) (lv' := [(8, .int (nI (j + 1))), (7, .int 1), (13, .int 1), (12, .int (nI RR)), (11, .int 1), (9, .long (lN GG)), (6, .int (nI d)), (5, .int (nI (sumN sh n))), (0, .ref (ad2 0 0)), (1, .int (nI ce)), (2, .ref (aa 0)), (3, .ref (aa 1)), (4, .ref (aa 3))]) C.1 C.2.1 dL_pays_318 hl (k := 5) rfl (nI_1 j) (by decide) rfl (fun ls hl => ?_)
                                            refine lv_goto (tgt := 91) C.1 C.2.1 dL_pays_321 (by decide) ?_
                                            refine W.widen (k := 503 + 8 * (j + 1)) (n := 2332 + 48 * (j + 1)) (by omega) (by omega) ?_
                                            exact loop2_ih (j + 1) (by omega) (by omega)  _ _ I ls (lv_sub hl [0, 1, 6, 7, 8, 9, 10, 11, 12] rfl)
                                          · exact absurd c276 (by decide)
                refine W.widen (k := 503 + 8 * 0) (n := 2332 + 48 * 0) (by omega) (by omega) ?_
                exact loop2 (n + 1) 0 (Nat.zero_le _) (by omega)  _ _ I ls (lv_sub hl [0, 1, 2, 3, 4, 5, 6, 7, 8] rfl)
            · have c56 : d = 40 := (nI_eq (a := d) (b := 40) (by omega) (by omega)).mp c56
              exfalso
              omega
        · have e2 := e2.symm; subst e2
          refine lv_istore (lv' := [(6, .int (-8)), (5, .int (nI (sumN sh n))), (0, .ref (ad 0 0)), (1, .int (nI ce)), (2, .ref (aa 0)), (3, .ref (aa 1)), (4, .ref (aa 3))]) C.1 C.2.1 dL_pays_43 hl (by decide) rfl (fun ls hl => ?_)
          refine lv_iload C.1 C.2.1 dL_pays_45 (lv_at hl 1 rfl) ?_
          refine lv_if_eq (tgt := 59) C.1 C.2.1 dL_pays_47 (by decide) (fun c47 => ?_) (fun c47 => ?_)
          · have c47 : sumN sh n = 0 := (nI_eq (a := sumN sh n) (b := 0) (by omega) (by omega)).mp c47
            refine lv_iload C.1 C.2.1 dL_pays_59 (lv_at hl 0 rfl) ?_
            refine lv_bipush (v := (-8)) C.1 C.2.1 dL_pays_61 (by decide) ?_
            refine lv_icmp_ne (tgt := 70) C.1 C.2.1 dL_pays_63 (by decide) (fun c63 => ?_) (fun c63 => ?_)
            · exact absurd rfl c63
            · refine lv_iconst (v := 1) C.1 C.2.1 dL_pays_66 (by decide) ?_
              refine lv_goto (tgt := 71) C.1 C.2.1 dL_pays_67 (by decide) ?_
              exact hv_zret (v := 1) C hr I rfl (⟨rfl, inv_mk hD hN ⟨fH, fT, fP, fC, fZ⟩⟩) dL_pays_71 (by omega) (by omega)
          · have c47 : ¬ (sumN sh n = 0) := fun z => c47 ((nI_eq (a := sumN sh n) (b := 0) (by omega) (by omega)).mpr z)
            exfalso
            omega
      · have c12 : ¬ (n ≤ i) := fun z => c12 ((nI_leI (a := n) (b := i) (by omega) (by omega)).mpr z)
        have hi12 : i < n := by omega
        have hKi := hK i hi12
        refine lv_iload C.1 C.2.1 dL_pays_15 (lv_at hl 1 rfl) ?_
        refine lv_aload_n C.1 C.2.1 dL_pays_17 rfl (lv_at hl 4 rfl) ?_
        refine lv_iload C.1 C.2.1 dL_pays_18 (lv_at hl 0 rfl) ?_
        refine hv_laldN (i := i) C I fH (by omega) (by decide) dL_pays_20 ?_
        refine lv_iconst (v := 5) C.1 C.2.1 dL_pays_21 (by decide) ?_
        refine lv_bipush (v := 20) C.1 C.2.1 dL_pays_22 (by decide) ?_
        refine hv_ki I (va_runS (As := [.long (hF i), .int 5, .int 20]) (rest := [.int (nI (sumN sh i))]) C.fix (c_L_part l G h _ (hF i) 5 20 (v := nI (sh i)) hKi.2.1.2.2.1) (va_cwS 3 C.2.2.2.2.1 gL_pays_L_part rfl rfl rfl (by decide +kernel) ⟨Nat.le_of_ble_eq_true rfl, Nat.le_of_ble_eq_true rfl⟩) (hv_preS C I) rfl rfl hl.1 rfl (lv_room (Nat.le_of_ble_eq_true rfl)) dL_pays_24 ⟨Nat.le_of_ble_eq_true rfl, Nat.le_of_ble_eq_true rfl⟩) (fun ru_62 u_62 H locs pu_62 I => ?_)
        obtain ⟨e1, e2⟩ := pu_62; have e1 := e1.symm; subst e1; have e2 := e2.symm; subst e2
        refine lv_iadd C.1 C.2.1 dL_pays_27 ?_
        refine lv_topi (fun z_63 ez_63 => ?_)
        have ez_63 := ez_63.trans (show _ = nI ((sumN sh i) + (sh i)) by exact nI_add (sumN sh i) (sh i))
        subst ez_63
        refine lv_topi (fun z_64 ez_64 => ?_)
        have ez_64 := ez_64.trans (show _ = nI (sumN sh (i + 1)) by exact rfl)
        subst ez_64
        refine lv_istore (lv' := [(5, .int (nI (sumN sh (i + 1)))), (6, .int (nI i)), (0, .ref (ad 0 0)), (1, .int (nI ce)), (2, .ref (aa 0)), (3, .ref (aa 1)), (4, .ref (aa 3))]) C.1 C.2.1 dL_pays_28 hl (by decide) rfl (fun ls hl => ?_)
        refine lv_iinc (v := nI (i + 1)) (lv' := [(6, .int (nI (i + 1))), (5, .int (nI (sumN sh (i + 1)))), (0, .ref (ad 0 0)), (1, .int (nI ce)), (2, .ref (aa 0)), (3, .ref (aa 1)), (4, .ref (aa 3))]) C.1 C.2.1 dL_pays_30 hl (k := 1) rfl (nI_1 i) (by decide) rfl (fun ls hl => ?_)
        refine lv_goto (tgt := 6) C.1 C.2.1 dL_pays_33 (by decide) ?_
        refine W.widen (k := 0) (n := 0) (by omega) (by omega) ?_
        exact loop_ih (i + 1) (by omega) (by omega)  _ _ I ls (lv_sub hl [0, 1, 2, 3, 4, 5, 6] rfl)
  refine W.widen (k := 0) (n := 0) (by omega) (by omega) ?_
  exact loop (n + 1) 0 (Nat.zero_le _) (by omega)  _ _ I ls (lv_sub hl [0, 1, 2, 3, 4, 5, 6] rfl)
