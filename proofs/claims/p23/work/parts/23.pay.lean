/-! ===== the desk pays ===== -/
def heP (dy : Int32) (n : Nat) (ar : Nat → Nat → Int32) (d : Nat) (c FM : Int32) : Nat → Int32 := fun k => if ar 6 k * c = 0 then ar 13 (20 * d + k) else tall (mkP dy n ar k (ar 6 k * c)) FM
def mkS (dy : Int32) (n : Nat) (ar : Nat → Nat → Int32) (d : Nat) (c : Int32) (po : Nat → List (Int32 × Int32 × Int32)) : Nat → List (Int32 × Int32 × Int32) := fun k => if ar 6 k * c = 0 then po (20 * d + k) else mkP dy n ar k (ar 6 k * c)
theorem poS_len {dy : Int32} {n : Nat} {ar : Nat → Nat → Int32} {d : Nat} {c : Int32} {po : Nat → List (Int32 × Int32 × Int32)} (hn : n ≤ 20) (h : ∀ m, (po m).length ≤ 32) (i m : Nat) : (poS po d (mkS dy n ar d c po) i m).length ≤ 32 := by
  unfold poS mkS
  split
  · split
    · exact h _
    · exact Nat.le_trans (mkP_len _ _ _ _ hn) (by decide)
  · exact h m
section PM
variable {G : hv_G} {h w u : hv} {ad b : Nat → Nat → Nat} {n d dl q qa i : Nat} {dy c FM : Int32} {rf : Int64} {ar : Nat → Nat → Int32} {fm he : Nat → Int32} {po : Nat → List (Int32 × Int32 × Int32)}
theorem pM_0 (hD : isD G h (adM (adV ad d q qa) b) n (d + 1) dl dy rf ar fm po) : h (ad 0 0) = some (.inr (5, [.ref (ad 1 0), .ref (ad 1 1), .ref (ad 2 0), .ref (ad 2 1), .int dy, .long rf])) := by
  have z := isD_0 hD
  exact z
theorem pM_20 (hD : isD G h (adM (adV ad d q qa) b) n (d + 1) dl dy rf ar fm po) : h (ad 2 0) = some (lObj G (ad 3 0) n) := by
  have z := isD_20 hD
  exact z
theorem pM_21 (hD : isD G h (adM (adV ad d q qa) b) n (d + 1) dl dy rf ar fm po) : h (ad 2 1) = some (lObj G (ad 3 1) dl) := by
  have z := isD_21 hD
  exact z
theorem adV_6 (ad : Nat → Nat → Nat) (d q qa : Nat) (b : Nat → Nat → Nat) : adM (adV ad d q qa) b 6 = va_up (ad 6) d q := by
  rw [adM_lo (by decide)]
  show adU (adU ad 6 d q) 7 d qa 6 = _
  rw [adU_nk (by decide)]
  funext i
  unfold adU va_up
  by_cases c : i = d <;> simp [c]
theorem adV_7 (ad : Nat → Nat → Nat) (d q qa : Nat) (b : Nat → Nat → Nat) : adM (adV ad d q qa) b 7 = va_up (ad 7) d qa := by
  rw [adM_lo (by decide)]
  funext i
  show adU (adU ad 6 d q) 7 d qa 7 i = _
  unfold adU va_up
  by_cases c : i = d <;> simp [c]
theorem pM_30 (hD : isD G h (adM (adV ad d q qa) b) n (d + 1) dl dy rf ar fm po) (hn : ¬ n = 0) : h (ad 3 0) = some (lArr G (ad 4) n) := by
  have z := isD_30 hD hn
  exact z
theorem pM_31 (hD : isD G h (adM (adV ad d q qa) b) n (d + 1) dl dy rf ar fm po) (hn : ¬ dl = 0) : h (ad 3 1) = some (lArr G (va_up (ad 6) d q) dl) := by
  have z := isD_31 hD hn
  rw [adV_6] at z
  exact z
theorem pM_4 (hD : isD G h (adM (adV ad d q qa) b) n (d + 1) dl dy rf ar fm po) {j : Nat} (hj : j < n) : h (ad 4 j) = some (hoE ar (ad 5 j) j) := by
  have z := isD_4 hD hj
  exact z
theorem pM_el (hD : isD G h (adM (adV ad d q qa) b) n (d + 1) dl dy rf ar fm po) : ∀ k, k < d → ∃ vs2, h (va_up (ad 6) d q k) = some (.inr (1, vs2)) := fun k hk => by
  have z := isD_6 hD (Nat.lt_succ_of_lt hk)
  rw [adV_6] at z
  exact ⟨_, z⟩
theorem pM_q (hD : isD G h (adM (adV ad d q qa) b) n (d + 1) dl dy rf (payDv ar dy d c he i) (va_up fm d FM) po) : h q = some (.inr (1, [.int dy, .int FM, .ref qa])) := by
  have z := isD_6 hD (Nat.lt_succ_self d)
  rw [adV_6, adV_7, va_up_self, va_up_self, va_up_self] at z
  rw [z]
  show some (Sum.inr (1, [Value.int (upd (ar 11) d dy d), _, _])) = _
  rw [show upd (ar 11) d dy d = dy from if_pos rfl]
theorem pM_qa (hD : isD G h (adM (adV ad d q qa) b) n (d + 1) dl dy rf (payDv ar dy d c he i) fm po) : h qa = some (.inl (G.2.1 2, 20, .inr (.inr (.inr (.inr (paysF (payG ar d c i) (b 8) d)))))) := by
  have z := isD_7 hD (Nat.lt_succ_self d)
  rw [adV_7, va_up_self, adM_hi (by decide)] at z
  exact z
theorem pay_0 (hD : isD G h ad n d d dy rf ar fm po) (gz : ∀ j, j < 20 → ar 12 (20 * d + j) = 0) {h9 : hv} {x0 x1 : Int32} (nq : h q = none) (e9 : h9 = hv_up h q (.inr (1, [.int x0, .int x1, .null]))) (na : h9 qa = none) (eu : u = hv_up (hv_up h9 qa (.inl (G.2.1 2, 20, .inr (.inr (.inr (.inr (fun _ => none))))))) q (.inr (1, [.int dy, .int FM, .ref qa]))) (mk : Nat → List (Int32 × Int32 × Int32)) :
    isD G u (adM (adV ad d q qa) (adV ad d q qa)) n (d + 1) d dy rf (payDv ar dy d c he 0) (va_up fm d FM) (poS po d mk 0) := by
  have ne : ¬ qa = q := fun z => by rw [z, e9, hv_up_eq] at na; cases na
  have na0 : h qa = none := by rw [e9, hv_up_ne ne] at na; exact na
  rw [adM_self, payDv_0, poS_0]
  refine isD_addDv hD (Nat.le_refl _) gz nq na0 ne (by rw [eu]; exact hv_up_eq) (by rw [eu, hv_up_ne ne]; exact hv_up_eq) (fun b e hb => ?_)
  rw [eu, hv_up_ne (hv_neN hb nq), hv_up_ne (hv_neN hb na0), e9, hv_up_ne (hv_neN hb nq)]
  exact hb
theorem pay_step (hD : isD G h (adM (adV ad d q qa) b) n (d + 1) dl dy rf (payDv ar dy d c (heP dy n ar d c FM) i) (va_up fm d FM) (poS po d (mkS dy n ar d c po) i)) (hn : n ≤ 20) (hi : i < 20) (gz : ∀ j, j < 20 → ar 12 (20 * d + j) = 0) (hpo : ∀ m, (po m).length ≤ 32) (h0 : ¬ ar 6 i * c = 0) {py pl t : Nat} {f : Nat → Nat} (hY : isY G h w py pl t f (mkP dy n ar i (ar 6 i * c)) (ar 6 i * c) 0)
    (eu : u = hv_up (hv_up w py (.inr (3, [.int (ar 6 i * c), .ref pl, .int (tall (mkP dy n ar i (ar 6 i * c)) FM)]))) qa (.inl (G.2.1 2, 20, .inr (.inr (.inr (.inr (va_up (paysF (payG ar d c i) (b 8) d) i (some py)))))))) :
    ∃ b2, isD G u (adM (adV ad d q qa) b2) n (d + 1) dl dy rf (payDv ar dy d c (heP dy n ar d c FM) (i + 1)) (va_up fm d FM) (poS po d (mkS dy n ar d c po) (i + 1)) := by
  refine ⟨adB b (20 * d + i) py pl t f, ?_⟩
  rw [payDv_1, poS_1, show heP dy n ar d c FM i = tall (mkP dy n ar i (ar 6 i * c)) FM from if_neg h0, show mkS dy n ar d c po i = mkP dy n ar i (ar 6 i * c) from if_neg h0]
  refine isD_addP hD hi ?_ (fun m _ => poS_len hn hpo i m) hY (Nat.le_trans (mkP_len _ _ _ _ hn) (by decide)) h0 ?_
  · show fillF (ar 12) (20 * d) (fun i => ar 6 i * c) i (20 * d + i) = 0
    exact (fill_out _ _ _ (Or.inr (Nat.le_refl _))).trans (gz i hi)
  · have e7 : adV ad d q qa 7 d = qa := adU_eq _ _ _ _
    rw [e7]
    exact eu
theorem pay_skip (hD : isD G h (adM (adV ad d q qa) b) n (d + 1) dl dy rf (payDv ar dy d c (heP dy n ar d c FM) i) (va_up fm d FM) (poS po d (mkS dy n ar d c po) i)) (hi : i < 20) (gz : ∀ j, j < 20 → ar 12 (20 * d + j) = 0) (h0 : ar 6 i * c = 0) :
    isD G h (adM (adV ad d q qa) b) n (d + 1) dl dy rf (payDv ar dy d c (heP dy n ar d c FM) (i + 1)) (va_up fm d FM) (poS po d (mkS dy n ar d c po) (i + 1)) := by
  rw [payDv_s (gz i hi) h0 (if_pos h0), poS_s (if_pos h0)]
  exact hD
theorem pay_end (hD : isD G h (adM (adV ad d q qa) b) n (d + 1) d dy rf ar fm po) {t2 : Nat} (ht : (t2 = ad 3 1 ∧ d ≠ 0) ∨ h t2 = none) (eu : u = hv_up (hv_up h t2 (lArr G (va_up (va_up (ad 6) d q) d q) (d + 1))) (ad 2 1) (lObj G t2 (d + 1))) : isD G u (adU (adM (adV ad d q qa) b) 3 1 t2) n (d + 1) (d + 1) dy rf ar fm po := by
  refine isD_addL hD (Nat.lt_succ_self d) ht ?_
  rw [adV_6, va_up_self]
  exact eu
theorem c_MP_pay (l : Launch) (G : hv_G) (h : hv) (sz : Nat) {ad b : Nat → Nat → Nat} {n d dl q qa i : Nat} {dy c : Int32} {rf : Int64} {ar : Nat → Nat → Int32} {fm he : Nat → Int32} {po : Nat → List (Int32 × Int32 × Int32)} (hD : isD G h (adM (adV ad d q qa) b) n (d + 1) dl dy rf (payDv ar dy d c he i) fm po) (j : Nat) (hj : j < n) (p0 : Int32) (hn : n ≤ 20) :
    hv_Mq l yX4_makePayment wsX4_makePayment 10 340 25 113 G h sz [.ref (ad 0 0), .int (nI j), .ref (ad 4 j), .int p0] (fun r u => ∃ (py pl t : Nat) (f : Nat → Nat), r = some py ∧ isY G h u py pl t f (mkP dy n ar j (ar 6 j * p0)) (ar 6 j * p0) 0) := by
  have z := c_X4_makePayment l G h sz hD j hj p0 hn
  exact z
end PM
set_option maxHeartbeats 8000000 in
set_option maxRecDepth 100000 in
theorem c_X4_pay (l : Launch) (hlt : l.stackTraces = false) (G : hv_G) (h : hv) (sz : Nat) {ad : Nat → Nat → Nat} {n d : Nat} {dy : Int32} {rf : Int64} {ar : Nat → Nat → Int32} {fm : Nat → Int32} {po : Nat → List (Int32 × Int32 × Int32)} (hD : isD G h ad n d d dy rf ar fm po) (p0 : Int32) (hn : n ≤ 20) (hd : d ≤ 40) (gz0 : d < 40 → ∀ j, j < 20 → ar 12 (20 * d + j) = 0) (hpo : ∀ m, (po m).length ≤ 32) (hgp : ¬ iw p0 1 1000 = 0 → ∀ k, k < n → (ar 6 k ≤ 0 ↔ ar 6 k * p0 = 0)) : hv_Xi l yX4_pay wsX4_pay 12 380 503 2332 G h sz [.ref (ad 0 0), .int p0] (fun r u => fPy p0 d (l_sum (ar 6) n) = 0 ∧ r = nI d ∧ ∃ ad2, ad2 0 0 = ad 0 0 ∧ isD G u ad2 n (d + 1) (d + 1) dy rf (payDv ar dy d p0 (heP dy n ar d p0 (vfm dy (ar 7) n)) n) (va_up fm d (vfm dy (ar 7) n)) (poS po d (mkS dy n ar d p0 po) n)) (fun E u => u = h ∧ ((fPy p0 d (l_sum (ar 6) n) = 1 ∧ E = "java/lang/IllegalArgumentException") ∨ (fPy p0 d (l_sum (ar 6) n) = 2 ∧ E = "java/lang/IllegalStateException"))) := by
  have wX0 : ∀ w ∈ wsX00, w ∈ wsX4_pay := by decide +kernel
  have wX1 : ∀ w ∈ wsX10, w ∈ wsX4_pay := by decide +kernel
  have wX4 : ∀ w ∈ wsX40, w ∈ wsX4_pay := by decide +kernel
  refine hv_enterX (y := yX4_pay) (avs := [.ref (ad 0 0), .int p0]) (maxL := 4) (Qf := fun sz => va_Qi (fun r u => fPy p0 d (l_sum (ar 6) n) = 0 ∧ r = nI d ∧ ∃ ad2, ad2 0 0 = ad 0 0 ∧ isD G u ad2 n (d + 1) (d + 1) dy rf (payDv ar dy d p0 (heP dy n ar d p0 (vfm dy (ar 7) n)) n) (va_up fm d (vfm dy (ar 7) n)) (poS po d (mkS dy n ar d p0 po) n)) (hv_Bq G h sz) (hv_A h sz)) (XC := fun sz => hv_X G h sz (fun E u => u = h ∧ ((fPy p0 d (l_sum (ar 6) n) = 1 ∧ E = "java/lang/IllegalArgumentException") ∨ (fPy p0 d (l_sum (ar 6) n) = 2 ∧ E = "java/lang/IllegalStateException")))) (by decide) rfl rfl (Nat.le_of_ble_eq_true rfl) ?_
  intro p e s m below meth c hr ht C I ls hl
  have hl : lv_has ls 4 [(0, .ref (ad 0 0)), (1, .int p0)] := hl
  refine lv_iload_n C.1 C.2.1 dX4_pay_0 rfl (lv_at hl 1 rfl) ?_
  refine lv_iconst (v := 1) C.1 C.2.1 dX4_pay_1 (by decide) ?_
  refine lv_sipush (v := 1000) C.1 C.2.1 dX4_pay_2 (by decide) ?_
  refine hv_ki I (va_runS (As := [.int p0, .int 1, .int 1000]) (rest := []) C.fix (c_X4_isWithin l G h _ p0 1 1000) (va_cwS 3 C.2.2.2.2.1 gX4_pay_X4_isWithin rfl rfl rfl (by decide +kernel) ⟨Nat.le_of_ble_eq_true rfl, Nat.le_of_ble_eq_true rfl⟩) (hv_preS C I) rfl rfl hl.1 rfl (lv_room (Nat.le_of_ble_eq_true rfl)) dX4_pay_5 ⟨Nat.le_of_ble_eq_true rfl, Nat.le_of_ble_eq_true rfl⟩) (fun ru_1 u_1 H locs pu_1 I => ?_)
  obtain ⟨e1, e2⟩ := pu_1; have e1 := e1.symm; subst e1; have e2 := e2.symm; subst e2
  refine lv_if_ne (tgt := 21) C.1 C.2.1 dX4_pay_8 (by decide) (fun c8 => ?_) (fun c8 => ?_)
  · refine lv_aload_n C.1 C.2.1 dX4_pay_21 rfl (lv_at hl 0 rfl) ?_
    refine hv_get (ci := 5) (Cn := RX4) (T := TX4) (N := 6) (ref := "DividendDesk") (v := .ref (ad 2 1)) C I (isD_0 hD) wX4 rfl 3 (by decide) (by decide +kernel) (fun _ h9 => h9) rfl dX4_pay_22 ?_
    refine hv_ki I (va_runV (As := []) (rest := []) C.fix (c_L_size l G h _ (isD_21 hD)) (cwV 0 C.2.2.2.2.1 gX4_pay_Jx4a65c_size_8abf5 rfl rfl rfl (by decide +kernel) ⟨Nat.le_of_ble_eq_true rfl, Nat.le_of_ble_eq_true rfl⟩) (hv_preV C I (isD_21 hD) (r := (RJx4a65c, TJx4a65c, 3)) rfl) rfl rfl hl.1 rfl (lv_room (Nat.le_of_ble_eq_true rfl)) dX4_pay_25 ⟨Nat.le_of_ble_eq_true rfl, Nat.le_of_ble_eq_true rfl⟩) (fun ru_2 u_2 H locs pu_2 I => ?_)
    obtain ⟨e1, e2⟩ := pu_2; have e1 := e1.symm; subst e1; have e2 := e2.symm; subst e2
    refine lv_bipush (v := 40) C.1 C.2.1 dX4_pay_28 (by decide) ?_
    refine lv_icmp_ge (tgt := 40) C.1 C.2.1 dX4_pay_30 (by decide) (fun c30 => ?_) (fun c30 => ?_)
    · have c99 : nI d = 40 := by rw [show d = 40 from Nat.le_antisymm hd (hv_leN (n := 40) (by decide) (by omega) c30)]; rfl
      exact hv_throw (cls := "java/lang/IllegalStateException") (text := "no more dividends, or nobody to pay") (names := ["java/lang/RuntimeException", "java/lang/Exception"]) (ik := 57) (is := 127) (ic := 61) C ht I hlt hl.1 (by decide +kernel) (by decide +kernel) (by decide +kernel) (by decide +kernel) (by decide +kernel) (by decide +kernel) (by decide +kernel) (by decide +kernel) dX4_pay_40 dX4_pay_43 dX4_pay_44 dX4_pay_46 dX4_pay_49 (by decide) (by decide) (Nat.le_of_ble_eq_true rfl) (Nat.le_of_ble_eq_true rfl) (⟨rfl, Or.inr (⟨(by unfold fPy; first | (simp [c8, c30, c99]; done) | ((repeat' split) <;> first | rfl | contradiction)), rfl⟩)⟩) (Nat.le_of_ble_eq_true rfl) (Nat.le_of_ble_eq_true rfl)
    · have hd40 : d < 40 := hv_ltN (n := 40) (by decide) (by omega) c30
      have gz := gz0 hd40
      have c99 : ¬ nI d = 40 := fun z => absurd ((nI_eq (b := 40) (by omega) (by decide)).mp z) (by omega)
      refine lv_aload_n C.1 C.2.1 dX4_pay_33 rfl (lv_at hl 0 rfl) ?_
      refine hv_ki I (va_runV (As := []) (rest := []) C.fix (c_X4_sharesInAll l G h _ hD hn) (cwV 0 C.2.2.2.2.1 gX4_pay_X4_sharesInAll rfl rfl rfl (by decide +kernel) ⟨Nat.le_of_ble_eq_true rfl, Nat.le_of_ble_eq_true rfl⟩) (hv_preV C I (isD_0 hD) (r := (RX4, TX4, 6)) rfl) rfl rfl hl.1 rfl (lv_room (Nat.le_of_ble_eq_true rfl)) dX4_pay_34 ⟨Nat.le_of_ble_eq_true rfl, Nat.le_of_ble_eq_true rfl⟩) (fun ru_3 u_3 H locs pu_3 I => ?_)
      obtain ⟨e1, e2⟩ := pu_3; have e1 := e1.symm; subst e1; have e2 := e2.symm; subst e2
      refine lv_if_ne (tgt := 50) C.1 C.2.1 dX4_pay_37 (by decide) (fun c37 => ?_) (fun c37 => ?_)
      · have hD0 := hD
        refine hv_new (ci := 1) (fs := [.int 0, .int 0, .null]) (Cn := RX0) (T := TX0) (N := 3) C I wX0 tyX0 tyX0_ok (by decide +kernel) (by decide +kernel) (by decide +kernel) rfl (fun j hj => by rcases (show j = 0 ∨ j = 1 ∨ j = 2 by omega) with rfl | rfl | rfl <;> rfl) (Nat.le_of_ble_eq_true rfl) (Nat.le_of_ble_eq_true rfl) dX4_pay_50 (fun q H nq I => ?_)
        obtain ⟨h9, e9⟩ : ∃ z, z = hv_up h q (.inr (1, [.int 0, .int 0, .null])) := ⟨_, rfl⟩
        rw [← e9] at I
        have f9 : h9 q = some (.inr (1, [.int 0, .int 0, .null])) := by rw [e9]; exact hv_up_eq
        have hD : isD G h9 ad n d d dy rf ar fm po := isD_mono hD0 (fun b e hb => by rw [e9, hv_up_ne (hv_neN hb nq)]; exact hb)
        refine lv_dup C.1 C.2.1 dX4_pay_53 rfl ?_
        refine lv_aload_n C.1 C.2.1 dX4_pay_54 rfl (lv_at hl 0 rfl) ?_
        refine hv_get (ci := 5) (Cn := RX4) (T := TX4) (N := 6) (ref := "DividendDesk") (v := .int dy) C I (isD_0 hD) wX4 rfl 4 (by decide) (by decide +kernel) (fun _ h9 => h9) rfl dX4_pay_55 ?_
        refine lv_aload_n C.1 C.2.1 dX4_pay_58 rfl (lv_at hl 0 rfl) ?_
        refine hv_ki I (va_runV (As := []) (rest := [.int dy, .ref q, .ref q]) C.fix (c_X4_validForms l G h9 _ hD hn) (cwV 0 C.2.2.2.2.1 gX4_pay_X4_validForms rfl rfl rfl (by decide +kernel) ⟨Nat.le_of_ble_eq_true rfl, Nat.le_of_ble_eq_true rfl⟩) (hv_preV C I (isD_0 hD) (r := (RX4, TX4, 6)) rfl) rfl rfl hl.1 rfl (lv_room (Nat.le_of_ble_eq_true rfl)) dX4_pay_59 ⟨Nat.le_of_ble_eq_true rfl, Nat.le_of_ble_eq_true rfl⟩) (fun ru_5 u_5 H locs pu_5 I => ?_)
        obtain ⟨e1, e2⟩ := pu_5; have e1 := e1.symm; subst e1; have e2 := e2.symm; subst e2
        refine hv_kv I (va_runIN (As := [.int dy, .int (vfm dy (ar 7) n)]) (rest := [.ref q]) C.fix (c_X0_init l G h9 _ f9 dy (vfm dy (ar 7) n)) ⟨va_cnB 2 C.2.2.2.2.1 gX4_pay_X0_init_n134 rfl rfl rfl (C.nw (w := .methodLinkNest RX4 134 yX0_init "DividendDesk") (by decide +kernel)) (C.ts (by decide +kernel)) (by decide +kernel) ⟨Nat.le_of_ble_eq_true rfl, Nat.le_of_ble_eq_true rfl⟩, rfl, C.ts (by decide +kernel)⟩ (hv_preS C I) rfl rfl hl.1 rfl (lv_room (Nat.le_of_ble_eq_true rfl)) dX4_pay_62 ⟨Nat.le_of_ble_eq_true rfl, Nat.le_of_ble_eq_true rfl⟩) (fun u_6 H locs pu_6 I => ?_)
        obtain ⟨qa, nqa, eu9⟩ := pu_6
        have hD : isD G u_6 (adM (adV ad d q qa) (adV ad d q qa)) n (d + 1) d dy rf (payDv ar dy d p0 (heP dy n ar d p0 (vfm dy (ar 7) n)) 0) (va_up fm d (vfm dy (ar 7) n)) (poS po d (mkS dy n ar d p0 po) 0) := pay_0 hD0 gz nq e9 nqa eu9 _
        refine lv_astore_n (lv' := [(2, .ref q), (0, .ref (ad 0 0)), (1, .int p0)]) C.1 C.2.1 dX4_pay_65 rfl hl (by decide) rfl (fun ls hl => ?_)
        refine lv_iconst (v := 0) C.1 C.2.1 dX4_pay_66 (by decide) ?_
        refine lv_istore_n (lv' := [(3, .int 0), (2, .ref q), (0, .ref (ad 0 0)), (1, .int p0)]) C.1 C.2.1 dX4_pay_67 rfl hl (by decide) rfl (fun ls hl => ?_)
        have loop2 : ∀ (k9 i : Nat), i ≤ n → n + 1 ≤ i + k9 → ∀ (h1 : hv) (b : Nat → Nat → Nat) (H : Heap) (locs : List Loc), isD G h1 (adM (adV ad d q qa) b) n (d + 1) d dy rf (payDv ar dy d p0 (heP dy n ar d p0 (vfm dy (ar 7) n)) i) (va_up fm d (vfm dy (ar 7) n)) (poS po d (mkS dy n ar d p0 po) i) → hv_I G h s h1 H locs → ∀ ls : Array Slot, lv_has ls 4 [(3, .int (nI i)), (2, .ref q), (0, .ref (ad 0 0)), (1, .int p0)] → W p l e (hv_rm 12 503 2332 380) s m (([.ref (ad 0 0), .int p0] : List Value).toArray) below meth c H locs (2 + 25 * i) (23 + 113 * i) (vx_MQ below (va_Qi (fun r u => fPy p0 d (l_sum (ar 6) n) = 0 ∧ r = nI d ∧ ∃ ad2, ad2 0 0 = ad 0 0 ∧ isD G u ad2 n (d + 1) (d + 1) dy rf (payDv ar dy d p0 (heP dy n ar d p0 (vfm dy (ar 7) n)) n) (va_up fm d (vfm dy (ar 7) n)) (poS po d (mkS dy n ar d p0 po) n)) (hv_Bq G h s.heap.size) (hv_A h s.heap.size)) (hv_X G h s.heap.size (fun E u => u = h ∧ ((fPy p0 d (l_sum (ar 6) n) = 1 ∧ E = "java/lang/IllegalArgumentException") ∨ (fPy p0 d (l_sum (ar 6) n) = 2 ∧ E = "java/lang/IllegalStateException")))) (([.ref (ad 0 0), .int p0] : List Value).toArray) s 503 2332 (hv_A h s.heap.size)) (F0 m 68 ls []) := by
          intro k9
          induction k9 with
          | zero => intro i hi hin; exact absurd hin (by omega)
          | succ k9 ih =>
            intro i hi hin h1 b H locs hD I ls hl
            refine lv_iload_n C.1 C.2.1 dX4_pay_68 rfl (lv_at hl 0 rfl) ?_
            refine lv_aload_n C.1 C.2.1 dX4_pay_69 rfl (lv_at hl 2 rfl) ?_
            refine hv_get (ci := 5) (Cn := RX4) (T := TX4) (N := 6) (ref := "DividendDesk") (v := .ref (ad 2 0)) C I (pM_0 hD) wX4 rfl 2 (by decide) (by decide +kernel) (fun _ h9 => h9) rfl dX4_pay_70 ?_
            refine hv_ki I (va_runV (As := []) (rest := [.int (nI i)]) C.fix (c_L_size l G h1 _ (pM_20 hD)) (cwV 0 C.2.2.2.2.1 gX4_pay_Jx4a65c_size_8abf5 rfl rfl rfl (by decide +kernel) ⟨Nat.le_of_ble_eq_true rfl, Nat.le_of_ble_eq_true rfl⟩) (hv_preV C I (pM_20 hD) (r := (RJx4a65c, TJx4a65c, 3)) rfl) rfl rfl hl.1 rfl (lv_room (Nat.le_of_ble_eq_true rfl)) dX4_pay_73 ⟨by have := gC_1 d; show _ ≤ (503 : Nat); omega, by have := gS_49 d; show _ ≤ (2332 : Nat); omega⟩) (fun ru_7 u_7 H locs pu_7 I => ?_)
            obtain ⟨e1, e2⟩ := pu_7; have e1 := e1.symm; subst e1; have e2 := e2.symm; subst e2
            refine lv_icmp_ge (tgt := 124) C.1 C.2.1 dX4_pay_76 (by decide) (fun c76 => ?_) (fun c76 => ?_)
            · have hi76 : i = n := Nat.le_antisymm hi (hv_leN (by omega) (by omega) c76)
              refine lv_aload_n C.1 C.2.1 dX4_pay_124 rfl (lv_at hl 2 rfl) ?_
              refine hv_get (ci := 5) (Cn := RX4) (T := TX4) (N := 6) (ref := "DividendDesk") (v := .ref (ad 2 1)) C I (pM_0 hD) wX4 rfl 3 (by decide) (by decide +kernel) (fun _ h9 => h9) rfl dX4_pay_125 ?_
              refine lv_aload_n C.1 C.2.1 dX4_pay_128 rfl (lv_at hl 1 rfl) ?_
              refine hv_ki I (va_runV (As := [.ref q]) (rest := []) C.fix (c_L_add l G h1 _ (pM_21 hD) (pM_31 hD) (by omega) (pM_q hD) rfl (by decide +kernel) (by decide) (pM_el hD)) (cwV 1 C.2.2.2.2.1 gX4_pay_Jx4a65c_add_9ea2d rfl rfl rfl (by decide +kernel) ⟨Nat.le_of_ble_eq_true rfl, Nat.le_of_ble_eq_true rfl⟩) (hv_preV C I (pM_21 hD) (r := (RJx4a65c, TJx4a65c, 3)) rfl) rfl rfl hl.1 rfl (lv_room (Nat.le_of_ble_eq_true rfl)) dX4_pay_129 ⟨by have := gC_1 d; show _ ≤ (503 : Nat); omega, by have := gS_49 d; show _ ≤ (2332 : Nat); omega⟩) (fun ru_8 u_8 H locs pu_8 I => ?_)
              obtain ⟨e1, t2, ht2, eu2⟩ := pu_8; have e1 := e1.symm; subst e1
              have hD := pay_end hD ht2 eu2
              rw [hi76] at hD
              have k00 : u_8 (ad 0 0) = some (.inr (5, [.ref (ad 1 0), .ref (ad 1 1), .ref (ad 2 0), .ref (ad 2 1), .int dy, .long rf])) := by have z := isD_0 hD; exact z
              have k21 : u_8 (ad 2 1) = some (lObj G t2 (d + 1)) := by rw [eu2]; exact hv_up_eq
              refine lv_pop C.1 C.2.1 dX4_pay_132 rfl ?_
              refine lv_aload_n C.1 C.2.1 dX4_pay_133 rfl (lv_at hl 2 rfl) ?_
              refine hv_get (ci := 5) (Cn := RX4) (T := TX4) (N := 6) (ref := "DividendDesk") (v := .ref (ad 2 1)) C I k00 wX4 rfl 3 (by decide) (by decide +kernel) (fun _ h9 => h9) rfl dX4_pay_134 ?_
              refine hv_ki I (va_runV (As := []) (rest := []) C.fix (c_L_size l G u_8 _ k21) (cwV 0 C.2.2.2.2.1 gX4_pay_Jx4a65c_size_8abf5 rfl rfl rfl (by decide +kernel) ⟨Nat.le_of_ble_eq_true rfl, Nat.le_of_ble_eq_true rfl⟩) (hv_preV C I k21 (r := (RJx4a65c, TJx4a65c, 3)) rfl) rfl rfl hl.1 rfl (lv_room (Nat.le_of_ble_eq_true rfl)) dX4_pay_137 ⟨by have := gC_1 d; show _ ≤ (503 : Nat); omega, by have := gS_49 d; show _ ≤ (2332 : Nat); omega⟩) (fun ru_9 u_9 H locs pu_9 I => ?_)
              obtain ⟨e1, e2⟩ := pu_9; have e1 := e1.symm; subst e1; have e2 := e2.symm; subst e2
              refine lv_iconst (v := 1) C.1 C.2.1 dX4_pay_140 (by decide) ?_
              refine lv_isub C.1 C.2.1 dX4_pay_141 ?_
              refine lv_topi (fun z_10 ez_10 => ?_)
              have ez_10 : z_10 = nI d := by rw [ez_10]; exact nI_pred d
              subst ez_10
              exact vx_ret (hv_iret (v := (nI d)) C hr I (⟨(by unfold fPy; first | (simp [c8, c30, c99, c37, c76]; done) | ((repeat' split) <;> first | rfl | contradiction)), rfl, adU (adM (adV ad d q qa) b) 3 1 t2, rfl, hD⟩) dX4_pay_142 (by have := gC_1 d; omega) (by have := gS_49 d; omega))
            · have hi76 : i < n := hv_ltN (by omega) (by omega) c76
              refine lv_aload_n C.1 C.2.1 dX4_pay_79 rfl (lv_at hl 2 rfl) ?_
              refine hv_get (ci := 5) (Cn := RX4) (T := TX4) (N := 6) (ref := "DividendDesk") (v := .ref (ad 2 0)) C I (pM_0 hD) wX4 rfl 2 (by decide) (by decide +kernel) (fun _ h9 => h9) rfl dX4_pay_80 ?_
              refine lv_iload_n C.1 C.2.1 dX4_pay_83 rfl (lv_at hl 0 rfl) ?_
              refine hv_kq I (va_runV (As := [.int (nI i)]) (rest := []) C.fix (c_L_get l G h1 _ (pM_20 hD) (pM_30 hD (Nat.ne_zero_of_lt hi76)) hi76 (by omega)) (cwV 1 C.2.2.2.2.1 gX4_pay_Jx4a65c_get_915e3 rfl rfl rfl (by decide +kernel) ⟨Nat.le_of_ble_eq_true rfl, Nat.le_of_ble_eq_true rfl⟩) (hv_preV C I (pM_20 hD) (r := (RJx4a65c, TJx4a65c, 3)) rfl) rfl rfl hl.1 rfl (lv_room (Nat.le_of_ble_eq_true rfl)) dX4_pay_84 ⟨by have := gC_1 d; show _ ≤ (503 : Nat); omega, by have := gS_49 d; show _ ≤ (2332 : Nat); omega⟩) (fun ru_11 u_11 H locs pu_11 I => ?_)
              obtain ⟨e1, e2⟩ := pu_11; have e1 := e1.symm; subst e1; have e2 := e2.symm; subst e2
              refine hv_cast C I (pM_4 hD hi76) (r := (RX1, TX1, 6)) rfl (by decide +kernel) dX4_pay_87 ?_
              refine hv_getN (ci := 2) (Cn := RX1) (T := TX1) (N := 6) (ref := "DividendDesk$Holder") (host := "DividendDesk") (v := .int (ar 6 i)) C I (pM_4 hD hi76) wX1 rfl 3 (by decide) (by decide +kernel) (fun _ h9 => h9) rfl dX4_pay_90 ?_
              refine lv_if_le (tgt := 118) C.1 C.2.1 dX4_pay_93 (by decide) (fun c93 => ?_) (fun c93 => ?_)
              · have h0 : ar 6 i * p0 = 0 := (hgp c8 i hi76).mp c93
                refine lv_iinc (v := nI (i + 1)) (lv' := [(3, .int (nI (i + 1))), (2, .ref q), (0, .ref (ad 0 0)), (1, .int p0)]) C.1 C.2.1 dX4_pay_118 hl (k := 0) rfl (nI_1 i) (by decide) rfl (fun ls hl => ?_)
                refine lv_goto (tgt := 68) C.1 C.2.1 dX4_pay_121 (by decide) ?_
                refine W.widen (k := 2 + 25 * (i + 1)) (n := 23 + 113 * (i + 1)) (by omega) (by omega) ?_
                exact ih (i + 1) (by omega) (by omega) _ _ _ _ (pay_skip hD (by omega) gz h0) I ls (lv_sub hl [0, 1, 2, 3] rfl)
              · have h0 : ¬ ar 6 i * p0 = 0 := fun z => c93 ((hgp c8 i hi76).mpr z)
                refine lv_aload_n C.1 C.2.1 dX4_pay_96 rfl (lv_at hl 1 rfl) ?_
                refine lv_iload_n C.1 C.2.1 dX4_pay_97 rfl (lv_at hl 0 rfl) ?_
                refine lv_aload_n C.1 C.2.1 dX4_pay_98 rfl (lv_at hl 2 rfl) ?_
                refine lv_iload_n C.1 C.2.1 dX4_pay_99 rfl (lv_at hl 0 rfl) ?_
                refine lv_aload_n C.1 C.2.1 dX4_pay_100 rfl (lv_at hl 2 rfl) ?_
                refine hv_get (ci := 5) (Cn := RX4) (T := TX4) (N := 6) (ref := "DividendDesk") (v := .ref (ad 2 0)) C I (pM_0 hD) wX4 rfl 2 (by decide) (by decide +kernel) (fun _ h9 => h9) rfl dX4_pay_101 ?_
                refine lv_iload_n C.1 C.2.1 dX4_pay_104 rfl (lv_at hl 0 rfl) ?_
                refine hv_kq I (va_runV (As := [.int (nI i)]) (rest := [.int (nI i), .ref (ad 0 0), .int (nI i), .ref q]) C.fix (c_L_get l G h1 _ (pM_20 hD) (pM_30 hD (Nat.ne_zero_of_lt hi76)) hi76 (by omega)) (cwV 1 C.2.2.2.2.1 gX4_pay_Jx4a65c_get_915e3 rfl rfl rfl (by decide +kernel) ⟨Nat.le_of_ble_eq_true rfl, Nat.le_of_ble_eq_true rfl⟩) (hv_preV C I (pM_20 hD) (r := (RJx4a65c, TJx4a65c, 3)) rfl) rfl rfl hl.1 rfl (lv_room (Nat.le_of_ble_eq_true rfl)) dX4_pay_105 ⟨by have := gC_1 d; show _ ≤ (503 : Nat); omega, by have := gS_49 d; show _ ≤ (2332 : Nat); omega⟩) (fun ru_12 u_12 H locs pu_12 I => ?_)
                obtain ⟨e1, e2⟩ := pu_12; have e1 := e1.symm; subst e1; have e2 := e2.symm; subst e2
                refine hv_cast C I (pM_4 hD hi76) (r := (RX1, TX1, 6)) rfl (by decide +kernel) dX4_pay_108 ?_
                refine lv_iload_n C.1 C.2.1 dX4_pay_111 rfl (lv_at hl 3 rfl) ?_
                refine hv_kq I (va_runV (As := [.int (nI i), .ref (ad 4 i), .int p0]) (rest := [.int (nI i), .ref q]) C.fix (c_MP_pay l G h1 _ hD i hi76 p0 hn) (cwV 3 C.2.2.2.2.1 gX4_pay_X4_makePayment rfl rfl rfl (by decide +kernel) ⟨Nat.le_of_ble_eq_true rfl, Nat.le_of_ble_eq_true rfl⟩) (hv_preV C I (pM_0 hD) (r := (RX4, TX4, 6)) rfl) rfl rfl hl.1 rfl (lv_room (Nat.le_of_ble_eq_true rfl)) dX4_pay_112 ⟨by have := gC_1 d; show _ ≤ (503 : Nat); omega, by have := gS_49 d; show _ ≤ (2332 : Nat); omega⟩) (fun ru_13 u_13 H locs pu_13 I => ?_)
                obtain ⟨py, pl, t, f, e1, hY⟩ := pu_13; have e1 := e1.symm; subst e1
                have fq := isY_k hY _ _ (pM_q hD)
                refine hv_kv I (va_runVN (As := [.int (nI i), .ref py]) (rest := []) C.fix (c_X0_enter l G u_13 _ fq (isY_k hY _ _ (pM_qa hD)) hY.1 hY.2.1 hY.2.2.1 hY.2.2.2.1 (Nat.le_trans (mkP_len _ _ _ _ hn) (by decide)) i (by omega)) ⟨va_cnB 2 C.2.2.2.2.1 gX4_pay_X0_enter_n139 rfl rfl rfl (C.nw (w := .methodLinkNest RX4 139 yX0_enter "DividendDesk") (by decide +kernel)) (C.ts (by decide +kernel)) (by decide +kernel) ⟨Nat.le_of_ble_eq_true rfl, Nat.le_of_ble_eq_true rfl⟩, C.ts (by decide +kernel), C.ts (by decide +kernel)⟩ (hv_preV C I fq (r := (RX0, TX0, 3)) rfl) rfl rfl hl.1 rfl (lv_room (Nat.le_of_ble_eq_true rfl)) dX4_pay_115 ⟨by have := gC_1 d; show _ ≤ (503 : Nat); omega, by have := gS_49 d; show _ ≤ (2332 : Nat); omega⟩) (fun u_14 H locs pu_14 I => ?_)
                obtain ⟨b2, hD⟩ := pay_step hD hn (by omega) gz hpo h0 hY pu_14
                refine lv_iinc (v := nI (i + 1)) (lv' := [(3, .int (nI (i + 1))), (2, .ref q), (0, .ref (ad 0 0)), (1, .int p0)]) C.1 C.2.1 dX4_pay_118 hl (k := 0) rfl (nI_1 i) (by decide) rfl (fun ls hl => ?_)
                refine lv_goto (tgt := 68) C.1 C.2.1 dX4_pay_121 (by decide) ?_
                refine W.widen (k := 2 + 25 * (i + 1)) (n := 23 + 113 * (i + 1)) (by omega) (by omega) ?_
                exact ih (i + 1) (by omega) (by omega) _ _ _ _ hD I ls (lv_sub hl [0, 1, 2, 3] rfl)
        refine W.widen (k := 2 + 25 * 0) (n := 23 + 113 * 0) (Nat.le_of_ble_eq_true rfl) (Nat.le_of_ble_eq_true rfl) ?_
        exact loop2 (n + 1) 0 (Nat.zero_le _) (by omega) _ _ _ _ hD I ls (lv_sub hl [0, 1, 2, 3] rfl)
      · exact hv_throw (cls := "java/lang/IllegalStateException") (text := "no more dividends, or nobody to pay") (names := ["java/lang/RuntimeException", "java/lang/Exception"]) (ik := 57) (is := 127) (ic := 61) C ht I hlt hl.1 (by decide +kernel) (by decide +kernel) (by decide +kernel) (by decide +kernel) (by decide +kernel) (by decide +kernel) (by decide +kernel) (by decide +kernel) dX4_pay_40 dX4_pay_43 dX4_pay_44 dX4_pay_46 dX4_pay_49 (by decide) (by decide) (Nat.le_of_ble_eq_true rfl) (Nat.le_of_ble_eq_true rfl) (⟨rfl, Or.inr (⟨(by unfold fPy; first | (simp [c8, c30, c99, c37]; done) | ((repeat' split) <;> first | rfl | contradiction)), rfl⟩)⟩) (Nat.le_of_ble_eq_true rfl) (Nat.le_of_ble_eq_true rfl)
  · exact hv_throw (cls := "java/lang/IllegalArgumentException") (text := "no such number of cents") (names := ["java/lang/RuntimeException", "java/lang/Exception"]) (ik := 42) (is := 125) (ic := 46) C ht I hlt hl.1 (by decide +kernel) (by decide +kernel) (by decide +kernel) (by decide +kernel) (by decide +kernel) (by decide +kernel) (by decide +kernel) (by decide +kernel) dX4_pay_11 dX4_pay_14 dX4_pay_15 dX4_pay_17 dX4_pay_20 (by decide) (by decide) (Nat.le_of_ble_eq_true rfl) (Nat.le_of_ble_eq_true rfl) (⟨rfl, Or.inl (⟨(by unfold fPy; first | (simp [c8]; done) | ((repeat' split) <;> first | rfl | contradiction)), rfl⟩)⟩) (Nat.le_of_ble_eq_true rfl) (Nat.le_of_ble_eq_true rfl)
