/-! ===== the reference: paying ===== -/
def fillF (old : Nat → Int32) (b : Nat) (v : Nat → Int32) (k : Nat) : Nat → Int32 := fun x => if b ≤ x ∧ x < b + k then v (x - b) else old x
theorem fill_0 (old : Nat → Int32) (b : Nat) (v : Nat → Int32) : fillF old b v 0 = old := by
  funext x
  unfold fillF
  exact if_neg (by omega)
theorem fill_1 (old : Nat → Int32) (b : Nat) (v : Nat → Int32) (k : Nat) : upd (fillF old b v k) (b + k) (v k) = fillF old b v (k + 1) := by
  funext x
  unfold upd fillF
  by_cases h : x = b + k
  · subst h
    simp
  · by_cases h2 : b ≤ x ∧ x < b + k
    · rw [if_neg h, if_pos h2, if_pos (by omega)]
    · rw [if_neg h, if_neg h2, if_neg (by omega)]
theorem fill_at (old : Nat → Int32) (b : Nat) (v : Nat → Int32) {k i : Nat} (hi : i < k) : fillF old b v k (b + i) = v i := by
  unfold fillF
  rw [if_pos (by omega), show b + i - b = i by omega]
theorem fill_out (old : Nat → Int32) (b : Nat) (v : Nat → Int32) {k x : Nat} (hx : x < b ∨ b + k ≤ x) : fillF old b v k x = old x := by
  unfold fillF
  exact if_neg (by omega)
def payA (ar : Nat → Nat → Int32) (PO Gr S O V P : Nat → Int32) : Nat → Nat → Int32 := fun x => if x = 11 then PO else if x = 12 then Gr else if x = 15 then S else if x = 16 then O else if x = 17 then V else if x = 18 then P else ar x
theorem payA_12 (ar : Nat → Nat → Int32) (PO Gr S O V P W : Nat → Int32) : va_up (payA ar PO Gr S O V P) 12 W = payA ar PO W S O V P := by
  funext x
  unfold va_up payA
  by_cases h : x = 12
  · subst h; rfl
  · simp [h]
theorem payA_15 (ar : Nat → Nat → Int32) (PO Gr S O V P W : Nat → Int32) : va_up (payA ar PO Gr S O V P) 15 W = payA ar PO Gr W O V P := by
  funext x
  unfold va_up payA
  by_cases h : x = 15
  · subst h; rfl
  · simp [h]
theorem payA_16 (ar : Nat → Nat → Int32) (PO Gr S O V P W : Nat → Int32) : va_up (payA ar PO Gr S O V P) 16 W = payA ar PO Gr S W V P := by
  funext x
  unfold va_up payA
  by_cases h : x = 16
  · subst h; rfl
  · simp [h]
theorem payA_17 (ar : Nat → Nat → Int32) (PO Gr S O V P W : Nat → Int32) : va_up (payA ar PO Gr S O V P) 17 W = payA ar PO Gr S O W P := by
  funext x
  unfold va_up payA
  by_cases h : x = 17
  · subst h; rfl
  · simp [h]
theorem payA_18 (ar : Nat → Nat → Int32) (PO Gr S O V P W : Nat → Int32) : va_up (payA ar PO Gr S O V P) 18 W = payA ar PO Gr S O V W := by
  funext x
  unfold va_up payA
  by_cases h : x = 18
  · subst h; rfl
  · simp [h]
theorem va_up_1314 (ar : Nat → Nat → Int32) (a b a2 b2 : Nat → Int32) : va_up (va_up (va_up (va_up ar 13 a) 14 b) 13 a2) 14 b2 = va_up (va_up ar 13 a2) 14 b2 := by
  funext x
  unfold va_up
  by_cases h : x = 14
  · simp [h]
  · by_cases h2 : x = 13 <;> simp [h, h2]
abbrev payG (ar : Nat → Nat → Int32) (d : Nat) (c : Int32) (k : Nat) : Nat → Int32 := fillF (ar 12) (20 * d) (fun i => ar 6 i * c) k
abbrev payV (ar : Nat → Nat → Int32) (dy : Int32) (d : Nat) (k : Nat) : Nat → Int32 := fillF (ar 17) (20 * d) (fun i => hf dy (ar 7 i)) k
abbrev payS (ar : Nat → Nat → Int32) (d : Nat) (k : Nat) : Nat → Int32 := fillF (ar 15) (20 * d) (fun i => if ar 4 i = 2 then 30 else ar 1 (ar 5 i).toNatClampNeg) k
abbrev payO (ar : Nat → Nat → Int32) (dy : Int32) (d : Nat) (k : Nat) : Nat → Int32 := fillF (ar 16) (20 * d) (fun i => if ar 4 i = 2 then 30 else rtF dy (ar 1) (ar 2) (ar 4) (ar 5) (ar 6) (ar 8) i) k
abbrev payP (ar : Nat → Nat → Int32) (d : Nat) (m : Nat) : Nat → Int32 := fillF (ar 18) (20 * (20 * d)) (ar 9) m
def payL (ar : Nat → Nat → Int32) (dy : Int32) (d : Nat) (c : Int32) (k : Nat) : Nat → Nat → Int32 := payA ar (upd (ar 11) d dy) (payG ar d c k) (payS ar d k) (payO ar dy d k) (payV ar dy d k) (payP ar d (20 * k))
theorem payL_0 (ar : Nat → Nat → Int32) (dy : Int32) (d : Nat) (c : Int32) : va_up ar 11 (upd (ar 11) d dy) = payL ar dy d c 0 := by
  unfold payL payG payS payO payV payP
  simp only [Nat.mul_zero, fill_0]
  funext x
  unfold va_up payA
  by_cases h : x = 11
  · simp [h]
  · by_cases h2 : x = 12
    · simp [h2]
    · by_cases h3 : x = 15
      · simp [h3]
      · by_cases h4 : x = 16
        · simp [h4]
        · by_cases h5 : x = 17
          · simp [h5]
          · by_cases h6 : x = 18
            · simp [h6]
            · simp [h, h2, h3, h4, h5, h6]
theorem payL_1 (ar : Nat → Nat → Int32) (dy : Int32) (d : Nat) (c : Int32) (k : Nat) : va_up (va_up (va_up (va_up (va_up (payL ar dy d c k) 12 (upd (payG ar d c k) (20 * d + k) (ar 6 k * c))) 17 (upd (payV ar dy d k) (20 * d + k) (vp_nar .boolean (hf dy (ar 7 k))))) 15 (upd (payS ar d k) (20 * d + k) (if ar 4 k = 2 then 30 else ar 1 (ar 5 k).toNatClampNeg))) 16 (upd (payO ar dy d k) (20 * d + k) (if ar 4 k = 2 then 30 else rtF dy (ar 1) (ar 2) (ar 4) (ar 5) (ar 6) (ar 8) k))) 18 (payP ar d (20 * k + 20)) = payL ar dy d c (k + 1) := by
  unfold payL
  rw [payA_12, payA_17, payA_15, payA_16, payA_18, vp_nar_hf]
  rw [show upd (payG ar d c k) (20 * d + k) (ar 6 k * c) = payG ar d c (k + 1) from fill_1 _ _ (fun i => ar 6 i * c) k,
    show upd (payV ar dy d k) (20 * d + k) (hf dy (ar 7 k)) = payV ar dy d (k + 1) from fill_1 _ _ (fun i => hf dy (ar 7 i)) k,
    show upd (payS ar d k) (20 * d + k) (if ar 4 k = 2 then 30 else ar 1 (ar 5 k).toNatClampNeg) = payS ar d (k + 1) from fill_1 _ _ (fun i => if ar 4 i = 2 then 30 else ar 1 (ar 5 i).toNatClampNeg) k,
    show upd (payO ar dy d k) (20 * d + k) (if ar 4 k = 2 then 30 else rtF dy (ar 1) (ar 2) (ar 4) (ar 5) (ar 6) (ar 8) k) = payO ar dy d (k + 1) from fill_1 _ _ (fun i => if ar 4 i = 2 then 30 else rtF dy (ar 1) (ar 2) (ar 4) (ar 5) (ar 6) (ar 8) i) k]
  rfl
def payT (ar : Nat → Nat → Int32) (dy : Int32) (n d : Nat) (c an : Int32) : Nat → Int32 := fun k => taxF dy n (ar 4) (ar 7) (payG ar d c n) (payS ar d n) (payO ar dy d n) (payV ar dy d n) (payP ar d (20 * n)) d k 0 an
def payR (ar : Nat → Nat → Int32) (dy : Int32) (n d : Nat) (c : Int32) (k : Nat) : Nat → Nat → Int32 := va_up (va_up (payL ar dy d c n) 13 (fillF (ar 13) (20 * d) (payT ar dy n d c 0) k)) 14 (fillF (ar 14) (20 * d) (payT ar dy n d c 1) k)
theorem payR_0 (ar : Nat → Nat → Int32) (dy : Int32) (n d : Nat) (c : Int32) : payL ar dy d c n = payR ar dy n d c 0 := by
  unfold payR
  rw [fill_0, fill_0]
  rw [show ar 14 = (va_up (payL ar dy d c n) 13 (ar 13)) 14 from rfl, va_up_id, show ar 13 = payL ar dy d c n 13 from rfl, va_up_id]
theorem payR_1 (ar : Nat → Nat → Int32) (dy : Int32) (n d : Nat) (c : Int32) (k : Nat) : va_up (va_up (payR ar dy n d c k) 13 (upd (fillF (ar 13) (20 * d) (payT ar dy n d c 0) k) (20 * d + k) (payT ar dy n d c 0 k))) 14 (upd (fillF (ar 14) (20 * d) (payT ar dy n d c 1) k) (20 * d + k) (payT ar dy n d c 1 k)) = payR ar dy n d c (k + 1) := by
  unfold payR
  rw [va_up_1314, fill_1, fill_1]
def fPy (a : Int32) (d : Nat) (sm : Int32) : Int32 := if iw a 1 1000 = 0 then 1 else if nI d = 40 then 2 else if sm = 0 then 2 else 0
set_option maxHeartbeats 8000000 in
set_option maxRecDepth 100000 in
theorem c_X5_pay (l : Launch) (G : hv_G) (h : hv) (sz : Nat) {o : Nat} {ad : Nat → Nat} {dy : Int32} {n d : Nat} {rf : Int64} {th : Int32} {ar : Nat → Nat → Int32} (hM : isM G h o ad dy n d rf th ar) (p0 : Int32) (hn : n ≤ 20) (hd : d ≤ 40) (hld : ∀ j, j < n → ¬ ar 4 j = 2 → vp_in (ar 5 j) 6) : hv_Mi l yX5_pay wsX5_pay 5 180 0 0 G h sz [.ref o, .int p0] (fun r u => (fPy p0 d (l_sum (ar 6) n) = 0 → (r = nI d ∧ isM G u o ad dy n (d + 1) rf 0 (payR ar dy n d p0 n))) ∧ (¬ fPy p0 d (l_sum (ar 6) n) = 0 → isM G u o ad dy n d rf (fPy p0 d (l_sum (ar 6) n)) ar)) := by
  have wX5 : ∀ w ∈ wsX50, w ∈ wsX5_pay := by decide +kernel
  refine hv_enter (y := yX5_pay) (avs := [.ref o, .int p0]) (maxL := 5) (Qf := fun sz => va_Qi (fun r u => (fPy p0 d (l_sum (ar 6) n) = 0 → (r = nI d ∧ isM G u o ad dy n (d + 1) rf 0 (payR ar dy n d p0 n))) ∧ (¬ fPy p0 d (l_sum (ar 6) n) = 0 → isM G u o ad dy n d rf (fPy p0 d (l_sum (ar 6) n)) ar)) (hv_Bq G h sz) (hv_A h sz)) (by decide) rfl rfl (Nat.le_of_ble_eq_true rfl) ?_
  intro p e s m below meth c hr hnm C I ls hl
  have hl : lv_has ls 5 [(0, .ref o), (1, .int p0)] := hl
  refine lv_aload_n C.1 C.2.1 dX5_pay_0 rfl (lv_at hl 0 rfl) ?_
  refine lv_iload_n C.1 C.2.1 dX5_pay_1 rfl (lv_at hl 1 rfl) ?_
  refine lv_iconst (v := 1) C.1 C.2.1 dX5_pay_2 (by decide) ?_
  refine lv_sipush (v := 1000) C.1 C.2.1 dX5_pay_3 (by decide) ?_
  refine hv_ki I (va_runS (As := [.int p0, .int 1, .int 1000]) (rest := [.ref o]) C.fix (c_X5_isIn l G h _ p0 1 1000) (va_cwS 3 C.2.2.2.2.1 gX5_pay_X5_isIn rfl rfl rfl (by decide +kernel) ⟨Nat.le_of_ble_eq_true rfl, Nat.le_of_ble_eq_true rfl⟩) (hv_preS C I) rfl rfl hl.1 rfl (lv_room (Nat.le_of_ble_eq_true rfl)) dX5_pay_6 ⟨Nat.le_of_ble_eq_true rfl, Nat.le_of_ble_eq_true rfl⟩) (fun ru_1 u_1 H locs pu_1 I => ?_)
  obtain ⟨e1, e2⟩ := pu_1; have e1 := e1.symm; subst e1; have e2 := e2.symm; subst e2
  refine lv_if_ne (tgt := 16) C.1 C.2.1 dX5_pay_9 (by decide) (fun c9 => ?_) (fun c9 => ?_)
  · refine lv_aload_n C.1 C.2.1 dX5_pay_16 rfl (lv_at hl 0 rfl) ?_
    refine hv_get (ci := 6) (Cn := RX5) (T := TX5) (N := 21) (ref := "DividendDeskModel") (v := .int (nI d)) C I hM.1 wX5 rfl 10 (by decide) (by decide +kernel) (fun _ h9 => h9) rfl dX5_pay_17 ?_
    refine lv_bipush (v := 40) C.1 C.2.1 dX5_pay_20 (by decide) ?_
    refine lv_icmp_eq (tgt := 32) C.1 C.2.1 dX5_pay_22 (by decide) (fun c22 => ?_) (fun c22 => ?_)
    · refine lv_iconst (v := 2) C.1 C.2.1 dX5_pay_32 (by decide) ?_
      refine lv_goto (tgt := 37) C.1 C.2.1 dX5_pay_33 (by decide) ?_
      refine hv_ki I (va_runV (As := [.int 2]) (rest := []) C.fix (c_X5_can l G h _ hM 2) (cwV 1 C.2.2.2.2.1 gX5_pay_X5_can rfl rfl rfl (by decide +kernel) ⟨Nat.le_of_ble_eq_true rfl, Nat.le_of_ble_eq_true rfl⟩) (hv_preV C I hM.1 (r := (RX5, TX5, 21)) rfl) rfl rfl hl.1 rfl (lv_room (Nat.le_of_ble_eq_true rfl)) dX5_pay_37 ⟨Nat.le_of_ble_eq_true rfl, Nat.le_of_ble_eq_true rfl⟩) (fun ru_2 u_2 H locs pu_2 I => ?_)
      obtain ⟨e1, hM⟩ := pu_2; have e1 := e1.symm; subst e1
      refine lv_if_ne (tgt := 45) C.1 C.2.1 dX5_pay_40 (by decide) (fun c40 => ?_) (fun c40 => ?_)
      · exact absurd (by decide) c40
      · refine lv_iconst (v := 0) C.1 C.2.1 dX5_pay_43 (by decide) ?_
        exact hv_iret (v := 0) C hr I ((fun eF => ⟨fun z => absurd (eF.symm.trans z) (by decide), fun _ => by rw [eF]; exact hM⟩) (show fPy p0 d (l_sum (ar 6) n) = 2 by unfold fPy; first | (simp [c9, c22, c40]; done) | ((repeat' split) <;> first | rfl | contradiction))) dX5_pay_44 (Nat.le_of_ble_eq_true rfl) (Nat.le_of_ble_eq_true rfl)
    · refine lv_aload_n C.1 C.2.1 dX5_pay_25 rfl (lv_at hl 0 rfl) ?_
      refine hv_ki I (va_runV (As := []) (rest := [.ref o]) C.fix (c_X5_allShares l G h _ hM hn) (cwV 0 C.2.2.2.2.1 gX5_pay_X5_allShares rfl rfl rfl (by decide +kernel) ⟨Nat.le_of_ble_eq_true rfl, Nat.le_of_ble_eq_true rfl⟩) (hv_preV C I hM.1 (r := (RX5, TX5, 21)) rfl) rfl rfl hl.1 rfl (lv_room (Nat.le_of_ble_eq_true rfl)) dX5_pay_26 ⟨Nat.le_of_ble_eq_true rfl, Nat.le_of_ble_eq_true rfl⟩) (fun ru_3 u_3 H locs pu_3 I => ?_)
      obtain ⟨e1, e2⟩ := pu_3; have e1 := e1.symm; subst e1; have e2 := e2.symm; subst e2
      refine lv_if_ne (tgt := 36) C.1 C.2.1 dX5_pay_29 (by decide) (fun c29 => ?_) (fun c29 => ?_)
      · refine lv_iconst (v := 0) C.1 C.2.1 dX5_pay_36 (by decide) ?_
        refine hv_ki I (va_runV (As := [.int 0]) (rest := []) C.fix (c_X5_can l G h _ hM 0) (cwV 1 C.2.2.2.2.1 gX5_pay_X5_can rfl rfl rfl (by decide +kernel) ⟨Nat.le_of_ble_eq_true rfl, Nat.le_of_ble_eq_true rfl⟩) (hv_preV C I hM.1 (r := (RX5, TX5, 21)) rfl) rfl rfl hl.1 rfl (lv_room (Nat.le_of_ble_eq_true rfl)) dX5_pay_37 ⟨Nat.le_of_ble_eq_true rfl, Nat.le_of_ble_eq_true rfl⟩) (fun ru_4 u_4 H locs pu_4 I => ?_)
        obtain ⟨e1, hM⟩ := pu_4; have e1 := e1.symm; subst e1
        refine lv_if_ne (tgt := 45) C.1 C.2.1 dX5_pay_40 (by decide) (fun c40 => ?_) (fun c40 => ?_)
        · have hd40 : d < 40 := Nat.lt_of_le_of_ne hd (fun z => c22 (by rw [z]; rfl))
          refine lv_aload_n C.1 C.2.1 dX5_pay_45 rfl (lv_at hl 0 rfl) ?_
          refine hv_get (ci := 6) (Cn := RX5) (T := TX5) (N := 21) (ref := "DividendDeskModel") (v := .ref (ad 11)) C I hM.1 wX5 rfl 11 (by decide) (by decide +kernel) (fun _ h9 => h9) rfl dX5_pay_46 ?_
          refine lv_aload_n C.1 C.2.1 dX5_pay_49 rfl (lv_at hl 0 rfl) ?_
          refine hv_get (ci := 6) (Cn := RX5) (T := TX5) (N := 21) (ref := "DividendDeskModel") (v := .int (nI d)) C I hM.1 wX5 rfl 10 (by decide) (by decide +kernel) (fun _ h9 => h9) rfl dX5_pay_50 ?_
          refine lv_aload_n C.1 C.2.1 dX5_pay_53 rfl (lv_at hl 0 rfl) ?_
          refine hv_get (ci := 6) (Cn := RX5) (T := TX5) (N := 21) (ref := "DividendDeskModel") (v := .int dy) C I hM.1 wX5 rfl 0 (by decide) (by decide +kernel) (fun _ h9 => h9) rfl dX5_pay_54 ?_
          refine hv_iastN (n := 40) (f := ar 11) C I (isM_a hM 11 rfl) hd40 (by decide) dX5_pay_57 (fun H locs I => ?_)
          obtain ⟨h_5, eh_5⟩ : ∃ z, z = hv_up u_4 (ad 11) (.inl (G.2.1 0, 40, .inl (upd (ar 11) d dy))) := ⟨_, rfl⟩
          have I : hv_I G h s h_5 H locs := by rw [eh_5]; exact I
          have hM : isM G h_5 o ad dy n d rf 0 (va_up ar 11 (upd (ar 11) d dy)) := isM_st hM 11 rfl eh_5
          refine lv_iconst (v := 0) C.1 C.2.1 dX5_pay_58 (by decide) ?_
          refine lv_istore_n (lv' := [(2, .int 0), (0, .ref o), (1, .int p0)]) C.1 C.2.1 dX5_pay_59 rfl hl (by decide) rfl (fun ls hl => ?_)
          have loop : ∀ (k9 i : Nat), i ≤ n → n + 1 ≤ i + k9 → ∀ (h1 : hv) (H : Heap) (locs : List Loc), isM G h1 o ad dy n d rf 0 (payL ar dy d p0 i) → hv_I G h s h1 H locs → ∀ ls : Array Slot, lv_has ls 5 [(2, .int (nI i)), (0, .ref o), (1, .int p0)] → W p l e (hv_rm 5 0 0 180) s m (([.ref o, .int p0] : List Value).toArray) below meth c H locs (0 + 0 + 0 + 0) (0 + 0 + 0 + 0) (MQ below (va_Qi (fun r u => (fPy p0 d (l_sum (ar 6) n) = 0 → (r = nI d ∧ isM G u o ad dy n (d + 1) rf 0 (payR ar dy n d p0 n))) ∧ (¬ fPy p0 d (l_sum (ar 6) n) = 0 → isM G u o ad dy n d rf (fPy p0 d (l_sum (ar 6) n)) ar)) (hv_Bq G h s.heap.size) (hv_A h s.heap.size)) (([.ref o, .int p0] : List Value).toArray) s 0 0 (hv_A h s.heap.size)) (F0 m 60 ls []) := by
            intro k9
            induction k9 with
            | zero => intro i hi hin; exact absurd hin (by omega)
            | succ k9 ih =>
              intro i hi hin h1 H locs hM I ls hl
              refine lv_iload_n C.1 C.2.1 dX5_pay_60 rfl (lv_at hl 0 rfl) ?_
              refine lv_aload_n C.1 C.2.1 dX5_pay_61 rfl (lv_at hl 1 rfl) ?_
              refine hv_get (ci := 6) (Cn := RX5) (T := TX5) (N := 21) (ref := "DividendDeskModel") (v := .int (nI n)) C I hM.1 wX5 rfl 3 (by decide) (by decide +kernel) (fun _ h9 => h9) rfl dX5_pay_62 ?_
              refine lv_icmp_ge (tgt := 207) C.1 C.2.1 dX5_pay_65 (by decide) (fun c65 => ?_) (fun c65 => ?_)
              · have hi65 : i = n := Nat.le_antisymm hi (hv_leN (by omega) (by omega) c65)
                have hM : isM G h1 o ad dy n d rf 0 (payL ar dy d p0 n) := isM_ar hM (by rw [hi65])
                refine lv_iconst (v := 0) C.1 C.2.1 dX5_pay_207 (by decide) ?_
                refine lv_istore_n (lv' := [(2, .int 0), (0, .ref o), (1, .int p0)]) C.1 C.2.1 dX5_pay_208 rfl hl (by decide) rfl (fun ls hl => ?_)
                have loop3 : ∀ (k9 i : Nat), i ≤ n → n + 1 ≤ i + k9 → ∀ (h1 : hv) (H : Heap) (locs : List Loc), isM G h1 o ad dy n d rf 0 (payR ar dy n d p0 i) → hv_I G h s h1 H locs → ∀ ls : Array Slot, lv_has ls 5 [(2, .int (nI i)), (0, .ref o), (1, .int p0)] → W p l e (hv_rm 5 0 0 180) s m (([.ref o, .int p0] : List Value).toArray) below meth c H locs (0 + 0 + 0 + 0) (0 + 0 + 0 + 0) (MQ below (va_Qi (fun r u => (fPy p0 d (l_sum (ar 6) n) = 0 → (r = nI d ∧ isM G u o ad dy n (d + 1) rf 0 (payR ar dy n d p0 n))) ∧ (¬ fPy p0 d (l_sum (ar 6) n) = 0 → isM G u o ad dy n d rf (fPy p0 d (l_sum (ar 6) n)) ar)) (hv_Bq G h s.heap.size) (hv_A h s.heap.size)) (([.ref o, .int p0] : List Value).toArray) s 0 0 (hv_A h s.heap.size)) (F0 m 209 ls []) := by
                  intro k9
                  induction k9 with
                  | zero => intro i hi hin; exact absurd hin (by omega)
                  | succ k9 ih =>
                    intro i hi hin h1 H locs hM I ls hl
                    refine lv_iload_n C.1 C.2.1 dX5_pay_209 rfl (lv_at hl 0 rfl) ?_
                    refine lv_aload_n C.1 C.2.1 dX5_pay_210 rfl (lv_at hl 1 rfl) ?_
                    refine hv_get (ci := 6) (Cn := RX5) (T := TX5) (N := 21) (ref := "DividendDeskModel") (v := .int (nI n)) C I hM.1 wX5 rfl 3 (by decide) (by decide +kernel) (fun _ h9 => h9) rfl dX5_pay_211 ?_
                    refine lv_icmp_ge (tgt := 273) C.1 C.2.1 dX5_pay_214 (by decide) (fun c214 => ?_) (fun c214 => ?_)
                    · have hi214 : i = n := Nat.le_antisymm hi (hv_leN (by omega) (by omega) c214)
                      have hM : isM G h1 o ad dy n d rf 0 (payR ar dy n d p0 n) := isM_ar hM (by rw [hi214])
                      refine lv_aload_n C.1 C.2.1 dX5_pay_273 rfl (lv_at hl 1 rfl) ?_
                      refine lv_dup C.1 C.2.1 dX5_pay_274 rfl ?_
                      refine hv_get (ci := 6) (Cn := RX5) (T := TX5) (N := 21) (ref := "DividendDeskModel") (v := .int (nI d)) C I hM.1 wX5 rfl 10 (by decide) (by decide +kernel) (fun _ h9 => h9) rfl dX5_pay_275 ?_
                      refine lv_iconst (v := 1) C.1 C.2.1 dX5_pay_278 (by decide) ?_
                      refine lv_iadd C.1 C.2.1 dX5_pay_279 ?_
                      refine lv_topi (fun z_6 ez_6 => ?_)
                      have ez_6 : z_6 = nI (d + 1) := by rw [ez_6]; exact nI_1 d
                      subst ez_6
                      refine hv_put (ci := 6) (Cn := RX5) (T := TX5) (N := 21) (ref := "DividendDeskModel") (ty := .int) (v := .int (nI (d + 1))) C I hM.1 wX5 tyX5 tyX5_ok nmX5 rfl 10 (by decide) (by decide +kernel) (fun _ h9 => h9) rfl (by decide +kernel) rfl rfl (Nat.le_of_ble_eq_true rfl) dX5_pay_280 (fun H locs I => ?_)
                      have I : hv_I G h s (hv_up h1 o (.inr (6, [.int dy, .ref (ad 1), .ref (ad 2), .int (nI n), .ref (ad 4), .ref (ad 5), .ref (ad 6), .ref (ad 7), .ref (ad 8), .ref (ad 9), .int (nI (d + 1)), .ref (ad 11), .ref (ad 12), .ref (ad 13), .ref (ad 14), .ref (ad 15), .ref (ad 16), .ref (ad 17), .ref (ad 18), .long rf, .int 0]))) H locs := I
                      obtain ⟨h_7, eh_7⟩ : ∃ z, z = hv_up h1 o (.inr (6, [.int dy, .ref (ad 1), .ref (ad 2), .int (nI n), .ref (ad 4), .ref (ad 5), .ref (ad 6), .ref (ad 7), .ref (ad 8), .ref (ad 9), .int (nI (d + 1)), .ref (ad 11), .ref (ad 12), .ref (ad 13), .ref (ad 14), .ref (ad 15), .ref (ad 16), .ref (ad 17), .ref (ad 18), .long rf, .int 0])) := ⟨_, rfl⟩
                      have I : hv_I G h s h_7 H locs := by rw [eh_7]; exact I
                      have hM : isM G h_7 o ad dy n (d + 1) rf 0 (payR ar dy n d p0 n) := isM_o hM eh_7
                      refine lv_aload_n C.1 C.2.1 dX5_pay_283 rfl (lv_at hl 1 rfl) ?_
                      refine hv_get (ci := 6) (Cn := RX5) (T := TX5) (N := 21) (ref := "DividendDeskModel") (v := .int (nI (d + 1))) C I hM.1 wX5 rfl 10 (by decide) (by decide +kernel) (fun _ h9 => h9) rfl dX5_pay_284 ?_
                      refine lv_iconst (v := 1) C.1 C.2.1 dX5_pay_287 (by decide) ?_
                      refine lv_isub C.1 C.2.1 dX5_pay_288 ?_
                      refine lv_topi (fun z_8 ez_8 => ?_)
                      have ez_8 : z_8 = nI d := by rw [ez_8]; exact nI_pred d
                      subst ez_8
                      exact hv_iret (v := (nI d)) C hr I (⟨fun _ => ⟨rfl, hM⟩, fun z => absurd (show fPy p0 d (l_sum (ar 6) n) = 0 by unfold fPy; first | (simp [c9, c22, c29, c40, c65, c214]; done) | ((repeat' split) <;> first | rfl | contradiction)) z⟩) dX5_pay_289 (Nat.le_of_ble_eq_true rfl) (Nat.le_of_ble_eq_true rfl)
                    · have hi214 : i < n := hv_ltN (by omega) (by omega) c214
                      refine lv_aload_n C.1 C.2.1 dX5_pay_217 rfl (lv_at hl 1 rfl) ?_
                      refine hv_get (ci := 6) (Cn := RX5) (T := TX5) (N := 21) (ref := "DividendDeskModel") (v := .ref (ad 13)) C I hM.1 wX5 rfl 13 (by decide) (by decide +kernel) (fun _ h9 => h9) rfl dX5_pay_218 ?_
                      refine lv_bipush (v := 20) C.1 C.2.1 dX5_pay_221 (by decide) ?_
                      refine lv_aload_n C.1 C.2.1 dX5_pay_223 rfl (lv_at hl 1 rfl) ?_
                      refine hv_get (ci := 6) (Cn := RX5) (T := TX5) (N := 21) (ref := "DividendDeskModel") (v := .int (nI d)) C I hM.1 wX5 rfl 10 (by decide) (by decide +kernel) (fun _ h9 => h9) rfl dX5_pay_224 ?_
                      refine lv_imul C.1 C.2.1 dX5_pay_227 ?_
                      refine lv_iload_n C.1 C.2.1 dX5_pay_228 rfl (lv_at hl 0 rfl) ?_
                      refine lv_iadd C.1 C.2.1 dX5_pay_229 ?_
                      refine lv_topi (fun z_9 ez_9 => ?_)
                      have ez_9 : z_9 = nI (20 * d + i) := by rw [ez_9]; exact ixN d i
                      subst ez_9
                      refine lv_aload_n C.1 C.2.1 dX5_pay_230 rfl (lv_at hl 1 rfl) ?_
                      refine lv_aload_n C.1 C.2.1 dX5_pay_231 rfl (lv_at hl 1 rfl) ?_
                      refine hv_get (ci := 6) (Cn := RX5) (T := TX5) (N := 21) (ref := "DividendDeskModel") (v := .int (nI d)) C I hM.1 wX5 rfl 10 (by decide) (by decide +kernel) (fun _ h9 => h9) rfl dX5_pay_232 ?_
                      refine lv_iload_n C.1 C.2.1 dX5_pay_235 rfl (lv_at hl 0 rfl) ?_
                      refine lv_iconst (v := 0) C.1 C.2.1 dX5_pay_236 (by decide) ?_
                      refine lv_iconst (v := 0) C.1 C.2.1 dX5_pay_237 (by decide) ?_
                      refine hv_ki I (va_runV (As := [.int (nI d), .int (nI i), .int 0, .int 0]) (rest := [.int (nI (20 * d + i)), .ref (ad 13)]) C.fix (c_X5_tax l G h1 _ hM d hd40 i (show i < 20 by omega) 0 0 hn) (cwV 4 C.2.2.2.2.1 gX5_pay_X5_tax rfl rfl rfl (by decide +kernel) ⟨Nat.le_of_ble_eq_true rfl, Nat.le_of_ble_eq_true rfl⟩) (hv_preV C I hM.1 (r := (RX5, TX5, 21)) rfl) rfl rfl hl.1 rfl (lv_room (Nat.le_of_ble_eq_true rfl)) dX5_pay_238 ⟨Nat.le_of_ble_eq_true rfl, Nat.le_of_ble_eq_true rfl⟩) (fun ru_10 u_10 H locs pu_10 I => ?_)
                      obtain ⟨e1, e2⟩ := pu_10; have e1 := e1.symm; subst e1; have e2 := e2.symm; subst e2
                      refine lv_topi (fun z_11 ez_11 => ?_)
                      have ez_11 : z_11 = payT ar dy n d p0 0 i := by rw [ez_11]; rfl
                      subst ez_11
                      refine hv_iastN (n := 800) (f := (fillF (ar 13) (20 * d) (payT ar dy n d p0 0) i)) C I (isM_a hM 13 rfl) (show 20 * d + i < 800 by omega) (by decide) dX5_pay_241 (fun H locs I => ?_)
                      obtain ⟨h_12, eh_12⟩ : ∃ z, z = hv_up h1 (ad 13) (.inl (G.2.1 0, 800, .inl (upd (fillF (ar 13) (20 * d) (payT ar dy n d p0 0) i) (20 * d + i) (payT ar dy n d p0 0 i)))) := ⟨_, rfl⟩
                      have I : hv_I G h s h_12 H locs := by rw [eh_12]; exact I
                      have hM : isM G h_12 o ad dy n d rf 0 (va_up (payR ar dy n d p0 i) 13 (upd (fillF (ar 13) (20 * d) (payT ar dy n d p0 0) i) (20 * d + i) (payT ar dy n d p0 0 i))) := isM_st hM 13 rfl eh_12
                      refine lv_aload_n C.1 C.2.1 dX5_pay_242 rfl (lv_at hl 1 rfl) ?_
                      refine hv_get (ci := 6) (Cn := RX5) (T := TX5) (N := 21) (ref := "DividendDeskModel") (v := .ref (ad 14)) C I hM.1 wX5 rfl 14 (by decide) (by decide +kernel) (fun _ h9 => h9) rfl dX5_pay_243 ?_
                      refine lv_bipush (v := 20) C.1 C.2.1 dX5_pay_246 (by decide) ?_
                      refine lv_aload_n C.1 C.2.1 dX5_pay_248 rfl (lv_at hl 1 rfl) ?_
                      refine hv_get (ci := 6) (Cn := RX5) (T := TX5) (N := 21) (ref := "DividendDeskModel") (v := .int (nI d)) C I hM.1 wX5 rfl 10 (by decide) (by decide +kernel) (fun _ h9 => h9) rfl dX5_pay_249 ?_
                      refine lv_imul C.1 C.2.1 dX5_pay_252 ?_
                      refine lv_iload_n C.1 C.2.1 dX5_pay_253 rfl (lv_at hl 0 rfl) ?_
                      refine lv_iadd C.1 C.2.1 dX5_pay_254 ?_
                      refine lv_topi (fun z_13 ez_13 => ?_)
                      have ez_13 : z_13 = nI (20 * d + i) := by rw [ez_13]; exact ixN d i
                      subst ez_13
                      refine lv_aload_n C.1 C.2.1 dX5_pay_255 rfl (lv_at hl 1 rfl) ?_
                      refine lv_aload_n C.1 C.2.1 dX5_pay_256 rfl (lv_at hl 1 rfl) ?_
                      refine hv_get (ci := 6) (Cn := RX5) (T := TX5) (N := 21) (ref := "DividendDeskModel") (v := .int (nI d)) C I hM.1 wX5 rfl 10 (by decide) (by decide +kernel) (fun _ h9 => h9) rfl dX5_pay_257 ?_
                      refine lv_iload_n C.1 C.2.1 dX5_pay_260 rfl (lv_at hl 0 rfl) ?_
                      refine lv_iconst (v := 0) C.1 C.2.1 dX5_pay_261 (by decide) ?_
                      refine lv_iconst (v := 1) C.1 C.2.1 dX5_pay_262 (by decide) ?_
                      refine hv_ki I (va_runV (As := [.int (nI d), .int (nI i), .int 0, .int 1]) (rest := [.int (nI (20 * d + i)), .ref (ad 14)]) C.fix (c_X5_tax l G h_12 _ hM d hd40 i (show i < 20 by omega) 0 1 hn) (cwV 4 C.2.2.2.2.1 gX5_pay_X5_tax rfl rfl rfl (by decide +kernel) ⟨Nat.le_of_ble_eq_true rfl, Nat.le_of_ble_eq_true rfl⟩) (hv_preV C I hM.1 (r := (RX5, TX5, 21)) rfl) rfl rfl hl.1 rfl (lv_room (Nat.le_of_ble_eq_true rfl)) dX5_pay_263 ⟨Nat.le_of_ble_eq_true rfl, Nat.le_of_ble_eq_true rfl⟩) (fun ru_14 u_14 H locs pu_14 I => ?_)
                      obtain ⟨e1, e2⟩ := pu_14; have e1 := e1.symm; subst e1; have e2 := e2.symm; subst e2
                      refine lv_topi (fun z_15 ez_15 => ?_)
                      have ez_15 : z_15 = payT ar dy n d p0 1 i := by rw [ez_15]; rfl
                      subst ez_15
                      refine hv_iastN (n := 800) (f := (fillF (ar 14) (20 * d) (payT ar dy n d p0 1) i)) C I (isM_a hM 14 rfl) (show 20 * d + i < 800 by omega) (by decide) dX5_pay_266 (fun H locs I => ?_)
                      obtain ⟨h_16, eh_16⟩ : ∃ z, z = hv_up h_12 (ad 14) (.inl (G.2.1 0, 800, .inl (upd (fillF (ar 14) (20 * d) (payT ar dy n d p0 1) i) (20 * d + i) (payT ar dy n d p0 1 i)))) := ⟨_, rfl⟩
                      have I : hv_I G h s h_16 H locs := by rw [eh_16]; exact I
                      have hM : isM G h_16 o ad dy n d rf 0 (va_up (va_up (payR ar dy n d p0 i) 13 (upd (fillF (ar 13) (20 * d) (payT ar dy n d p0 0) i) (20 * d + i) (payT ar dy n d p0 0 i))) 14 (upd (fillF (ar 14) (20 * d) (payT ar dy n d p0 1) i) (20 * d + i) (payT ar dy n d p0 1 i))) := isM_st hM 14 rfl eh_16
                      refine lv_iinc (v := nI (i + 1)) (lv' := [(2, .int (nI (i + 1))), (0, .ref o), (1, .int p0)]) C.1 C.2.1 dX5_pay_267 hl (k := 0) rfl (nI_1 i) (by decide) rfl (fun ls hl => ?_)
                      refine lv_goto (tgt := 209) C.1 C.2.1 dX5_pay_270 (by decide) ?_
                      exact ih (i + 1) (by omega) (by omega) _ _ _ (isM_ar hM (payR_1 ar dy n d p0 i)) I ls (lv_sub hl [0, 1, 2] rfl)
                exact loop3 (n + 1) 0 (Nat.zero_le _) (by omega) _ _ _ (isM_ar hM (payR_0 ar dy n d p0)) I ls (lv_sub hl [0, 1, 2] rfl)
              · have hi65 : i < n := hv_ltN (by omega) (by omega) c65
                refine lv_bipush (v := 20) C.1 C.2.1 dX5_pay_68 (by decide) ?_
                refine lv_aload_n C.1 C.2.1 dX5_pay_70 rfl (lv_at hl 1 rfl) ?_
                refine hv_get (ci := 6) (Cn := RX5) (T := TX5) (N := 21) (ref := "DividendDeskModel") (v := .int (nI d)) C I hM.1 wX5 rfl 10 (by decide) (by decide +kernel) (fun _ h9 => h9) rfl dX5_pay_71 ?_
                refine lv_imul C.1 C.2.1 dX5_pay_74 ?_
                refine lv_iload_n C.1 C.2.1 dX5_pay_75 rfl (lv_at hl 0 rfl) ?_
                refine lv_iadd C.1 C.2.1 dX5_pay_76 ?_
                refine lv_topi (fun z_17 ez_17 => ?_)
                have ez_17 : z_17 = nI (20 * d + i) := by rw [ez_17]; exact ixN d i
                subst ez_17
                refine lv_istore_n (lv' := [(3, .int (nI (20 * d + i))), (2, .int (nI i)), (0, .ref o), (1, .int p0)]) C.1 C.2.1 dX5_pay_77 rfl hl (by decide) rfl (fun ls hl => ?_)
                refine lv_aload_n C.1 C.2.1 dX5_pay_78 rfl (lv_at hl 2 rfl) ?_
                refine hv_get (ci := 6) (Cn := RX5) (T := TX5) (N := 21) (ref := "DividendDeskModel") (v := .ref (ad 12)) C I hM.1 wX5 rfl 12 (by decide) (by decide +kernel) (fun _ h9 => h9) rfl dX5_pay_79 ?_
                refine lv_iload_n C.1 C.2.1 dX5_pay_82 rfl (lv_at hl 0 rfl) ?_
                refine lv_aload_n C.1 C.2.1 dX5_pay_83 rfl (lv_at hl 2 rfl) ?_
                refine hv_get (ci := 6) (Cn := RX5) (T := TX5) (N := 21) (ref := "DividendDeskModel") (v := .ref (ad 6)) C I hM.1 wX5 rfl 6 (by decide) (by decide +kernel) (fun _ h9 => h9) rfl dX5_pay_84 ?_
                refine lv_iload_n C.1 C.2.1 dX5_pay_87 rfl (lv_at hl 1 rfl) ?_
                refine hv_ialdN (n := 20) (f := ar 6) C I (isM_a hM 6 rfl) (show i < 20 by omega) (by decide) dX5_pay_88 ?_
                refine lv_iload_n C.1 C.2.1 dX5_pay_89 rfl (lv_at hl 3 rfl) ?_
                refine lv_imul C.1 C.2.1 dX5_pay_90 ?_
                refine hv_iastN (n := 800) (f := (payG ar d p0 i)) C I (isM_a hM 12 rfl) (show 20 * d + i < 800 by omega) (by decide) dX5_pay_91 (fun H locs I => ?_)
                obtain ⟨h_18, eh_18⟩ : ∃ z, z = hv_up h1 (ad 12) (.inl (G.2.1 0, 800, .inl (upd (payG ar d p0 i) (20 * d + i) (((ar 6) i) * p0)))) := ⟨_, rfl⟩
                have I : hv_I G h s h_18 H locs := by rw [eh_18]; exact I
                have hM : isM G h_18 o ad dy n d rf 0 (va_up (payL ar dy d p0 i) 12 (upd (payG ar d p0 i) (20 * d + i) (((ar 6) i) * p0))) := isM_st hM 12 rfl eh_18
                refine lv_aload_n C.1 C.2.1 dX5_pay_92 rfl (lv_at hl 2 rfl) ?_
                refine hv_get (ci := 6) (Cn := RX5) (T := TX5) (N := 21) (ref := "DividendDeskModel") (v := .ref (ad 17)) C I hM.1 wX5 rfl 17 (by decide) (by decide +kernel) (fun _ h9 => h9) rfl dX5_pay_93 ?_
                refine lv_iload_n C.1 C.2.1 dX5_pay_96 rfl (lv_at hl 0 rfl) ?_
                refine lv_aload_n C.1 C.2.1 dX5_pay_97 rfl (lv_at hl 2 rfl) ?_
                refine lv_iload_n C.1 C.2.1 dX5_pay_98 rfl (lv_at hl 1 rfl) ?_
                refine hv_ki I (va_runV (As := [.int (nI i)]) (rest := [.int (nI (20 * d + i)), .ref (ad 17)]) C.fix (c_X5_hasForm l G h_18 _ hM i (show i < 20 by omega)) (cwV 1 C.2.2.2.2.1 gX5_pay_X5_hasForm rfl rfl rfl (by decide +kernel) ⟨Nat.le_of_ble_eq_true rfl, Nat.le_of_ble_eq_true rfl⟩) (hv_preV C I hM.1 (r := (RX5, TX5, 21)) rfl) rfl rfl hl.1 rfl (lv_room (Nat.le_of_ble_eq_true rfl)) dX5_pay_99 ⟨Nat.le_of_ble_eq_true rfl, Nat.le_of_ble_eq_true rfl⟩) (fun ru_19 u_19 H locs pu_19 I => ?_)
                obtain ⟨e1, e2⟩ := pu_19; have e1 := e1.symm; subst e1; have e2 := e2.symm; subst e2
                refine hv_zastN (n := 800) (f := (payV ar dy d i)) C I (isM_a hM 17 rfl) (show 20 * d + i < 800 by omega) (by decide) dX5_pay_102 (fun H locs I => ?_)
                obtain ⟨h_20, eh_20⟩ : ∃ z, z = hv_up h_18 (ad 17) (.inl (G.2.1 1, 800, .inl (upd (payV ar dy d i) (20 * d + i) (vp_nar .boolean (hf dy ((ar 7) i)))))) := ⟨_, rfl⟩
                have I : hv_I G h s h_20 H locs := by rw [eh_20]; exact I
                have hM : isM G h_20 o ad dy n d rf 0 (va_up (va_up (payL ar dy d p0 i) 12 (upd (payG ar d p0 i) (20 * d + i) (((ar 6) i) * p0))) 17 (upd (payV ar dy d i) (20 * d + i) (vp_nar .boolean (hf dy ((ar 7) i))))) := isM_st hM 17 rfl eh_20
                refine lv_aload_n C.1 C.2.1 dX5_pay_103 rfl (lv_at hl 2 rfl) ?_
                refine hv_get (ci := 6) (Cn := RX5) (T := TX5) (N := 21) (ref := "DividendDeskModel") (v := .ref (ad 15)) C I hM.1 wX5 rfl 15 (by decide) (by decide +kernel) (fun _ h9 => h9) rfl dX5_pay_104 ?_
                refine lv_iload_n C.1 C.2.1 dX5_pay_107 rfl (lv_at hl 0 rfl) ?_
                have J134 : ∀ (z_21 : Int32), z_21 = (if ar 4 i = 2 then 30 else ar 1 (ar 5 i).toNatClampNeg) → ∀ (H : Heap) (locs : List Loc), hv_I G h s h_20 H locs → W p l e (hv_rm 5 0 0 180) s m (([.ref o, .int p0] : List Value).toArray) below meth c H locs (0 + 0 + 0 + 0 + 0) (0 + 0 + 0 + 0 + 0) (MQ below (va_Qi (fun r u => (fPy p0 d (l_sum (ar 6) n) = 0 → (r = nI d ∧ isM G u o ad dy n (d + 1) rf 0 (payR ar dy n d p0 n))) ∧ (¬ fPy p0 d (l_sum (ar 6) n) = 0 → isM G u o ad dy n d rf (fPy p0 d (l_sum (ar 6) n)) ar)) (hv_Bq G h s.heap.size) (hv_A h s.heap.size)) (([.ref o, .int p0] : List Value).toArray) s 0 0 (hv_A h s.heap.size)) (F0 m 134 ls [.int z_21, .int (nI (20 * d + i)), .ref (ad 15)]) := by
                  intro z_21 ez_21 H locs I; subst ez_21
                  refine hv_iastN (n := 800) (f := (payS ar d i)) C I (isM_a hM 15 rfl) (show 20 * d + i < 800 by omega) (by decide) dX5_pay_134 (fun H locs I => ?_)
                  obtain ⟨h_22, eh_22⟩ : ∃ z, z = hv_up h_20 (ad 15) (.inl (G.2.1 0, 800, .inl (upd (payS ar d i) (20 * d + i) (if ar 4 i = 2 then 30 else ar 1 (ar 5 i).toNatClampNeg)))) := ⟨_, rfl⟩
                  have I : hv_I G h s h_22 H locs := by rw [eh_22]; exact I
                  have hM : isM G h_22 o ad dy n d rf 0 (va_up (va_up (va_up (payL ar dy d p0 i) 12 (upd (payG ar d p0 i) (20 * d + i) (((ar 6) i) * p0))) 17 (upd (payV ar dy d i) (20 * d + i) (vp_nar .boolean (hf dy ((ar 7) i))))) 15 (upd (payS ar d i) (20 * d + i) (if ar 4 i = 2 then 30 else ar 1 (ar 5 i).toNatClampNeg))) := isM_st hM 15 rfl eh_22
                  refine lv_aload_n C.1 C.2.1 dX5_pay_135 rfl (lv_at hl 2 rfl) ?_
                  refine hv_get (ci := 6) (Cn := RX5) (T := TX5) (N := 21) (ref := "DividendDeskModel") (v := .ref (ad 16)) C I hM.1 wX5 rfl 16 (by decide) (by decide +kernel) (fun _ h9 => h9) rfl dX5_pay_136 ?_
                  refine lv_iload_n C.1 C.2.1 dX5_pay_139 rfl (lv_at hl 0 rfl) ?_
                  have J160 : ∀ (z_23 : Int32), z_23 = (if ar 4 i = 2 then 30 else rtF dy (ar 1) (ar 2) (ar 4) (ar 5) (ar 6) (ar 8) i) → ∀ (H : Heap) (locs : List Loc), hv_I G h s h_22 H locs → W p l e (hv_rm 5 0 0 180) s m (([.ref o, .int p0] : List Value).toArray) below meth c H locs (0 + 0 + 0 + 0 + 0) (0 + 0 + 0 + 0 + 0) (MQ below (va_Qi (fun r u => (fPy p0 d (l_sum (ar 6) n) = 0 → (r = nI d ∧ isM G u o ad dy n (d + 1) rf 0 (payR ar dy n d p0 n))) ∧ (¬ fPy p0 d (l_sum (ar 6) n) = 0 → isM G u o ad dy n d rf (fPy p0 d (l_sum (ar 6) n)) ar)) (hv_Bq G h s.heap.size) (hv_A h s.heap.size)) (([.ref o, .int p0] : List Value).toArray) s 0 0 (hv_A h s.heap.size)) (F0 m 160 ls [.int z_23, .int (nI (20 * d + i)), .ref (ad 16)]) := by
                    intro z_23 ez_23 H locs I; subst ez_23
                    refine hv_iastN (n := 800) (f := (payO ar dy d i)) C I (isM_a hM 16 rfl) (show 20 * d + i < 800 by omega) (by decide) dX5_pay_160 (fun H locs I => ?_)
                    obtain ⟨h_24, eh_24⟩ : ∃ z, z = hv_up h_22 (ad 16) (.inl (G.2.1 0, 800, .inl (upd (payO ar dy d i) (20 * d + i) (if ar 4 i = 2 then 30 else rtF dy (ar 1) (ar 2) (ar 4) (ar 5) (ar 6) (ar 8) i)))) := ⟨_, rfl⟩
                    have I : hv_I G h s h_24 H locs := by rw [eh_24]; exact I
                    have hM : isM G h_24 o ad dy n d rf 0 (va_up (va_up (va_up (va_up (payL ar dy d p0 i) 12 (upd (payG ar d p0 i) (20 * d + i) (((ar 6) i) * p0))) 17 (upd (payV ar dy d i) (20 * d + i) (vp_nar .boolean (hf dy ((ar 7) i))))) 15 (upd (payS ar d i) (20 * d + i) (if ar 4 i = 2 then 30 else ar 1 (ar 5 i).toNatClampNeg))) 16 (upd (payO ar dy d i) (20 * d + i) (if ar 4 i = 2 then 30 else rtF dy (ar 1) (ar 2) (ar 4) (ar 5) (ar 6) (ar 8) i))) := isM_st hM 16 rfl eh_24
                    refine lv_iconst (v := 0) C.1 C.2.1 dX5_pay_161 (by decide) ?_
                    refine lv_istore (lv' := [(4, .int 0), (3, .int (nI (20 * d + i))), (2, .int (nI i)), (0, .ref o), (1, .int p0)]) C.1 C.2.1 dX5_pay_162 hl (by decide) rfl (fun ls hl => ?_)
                    have loop2 : ∀ (k9 i2 : Nat), i2 ≤ 20 → 20 + 1 ≤ i2 + k9 → ∀ (h2 : hv) (H : Heap) (locs : List Loc), isM G h2 o ad dy n d rf 0 (va_up (va_up (va_up (va_up (va_up (payL ar dy d p0 i) 12 (upd (payG ar d p0 i) (20 * d + i) (((ar 6) i) * p0))) 17 (upd (payV ar dy d i) (20 * d + i) (vp_nar .boolean (hf dy ((ar 7) i))))) 15 (upd (payS ar d i) (20 * d + i) (if ar 4 i = 2 then 30 else ar 1 (ar 5 i).toNatClampNeg))) 16 (upd (payO ar dy d i) (20 * d + i) (if ar 4 i = 2 then 30 else rtF dy (ar 1) (ar 2) (ar 4) (ar 5) (ar 6) (ar 8) i))) 18 (payP ar d (20 * i + i2))) → hv_I G h s h2 H locs → ∀ ls : Array Slot, lv_has ls 5 [(4, .int (nI i2)), (3, .int (nI (20 * d + i))), (2, .int (nI i)), (0, .ref o), (1, .int p0)] → W p l e (hv_rm 5 0 0 180) s m (([.ref o, .int p0] : List Value).toArray) below meth c H locs (0 + 0 + 0 + 0 + 0) (0 + 0 + 0 + 0 + 0) (MQ below (va_Qi (fun r u => (fPy p0 d (l_sum (ar 6) n) = 0 → (r = nI d ∧ isM G u o ad dy n (d + 1) rf 0 (payR ar dy n d p0 n))) ∧ (¬ fPy p0 d (l_sum (ar 6) n) = 0 → isM G u o ad dy n d rf (fPy p0 d (l_sum (ar 6) n)) ar)) (hv_Bq G h s.heap.size) (hv_A h s.heap.size)) (([.ref o, .int p0] : List Value).toArray) s 0 0 (hv_A h s.heap.size)) (F0 m 164 ls []) := by
                      intro k9
                      induction k9 with
                      | zero => intro i2 hi2 hin; exact absurd hin (by omega)
                      | succ k9 ih2 =>
                        intro i2 hi2 hin h2 H locs hM I ls hl
                        refine lv_iload C.1 C.2.1 dX5_pay_164 (lv_at hl 0 rfl) ?_
                        refine lv_bipush (v := 20) C.1 C.2.1 dX5_pay_166 (by decide) ?_
                        refine lv_icmp_ge (tgt := 201) C.1 C.2.1 dX5_pay_168 (by decide) (fun c168 => ?_) (fun c168 => ?_)
                        · have hi168 : i2 = 20 := Nat.le_antisymm hi2 (hv_leN (n := 20) (by decide) (by omega) c168)
                          subst hi168
                          refine lv_iinc (v := nI (i + 1)) (lv' := [(2, .int (nI (i + 1))), (4, .int (nI 20)), (3, .int (nI (20 * d + i))), (0, .ref o), (1, .int p0)]) C.1 C.2.1 dX5_pay_201 hl (k := 2) rfl (nI_1 i) (by decide) rfl (fun ls hl => ?_)
                          refine lv_goto (tgt := 60) C.1 C.2.1 dX5_pay_204 (by decide) ?_
                          exact ih (i + 1) (by omega) (by omega) _ _ _ (isM_ar hM (payL_1 ar dy d p0 i)) I ls (lv_sub hl [0, 3, 4] rfl)
                        · have hi168 : i2 < 20 := hv_ltN (n := 20) (by decide) (by omega) c168
                          refine lv_aload_n C.1 C.2.1 dX5_pay_171 rfl (lv_at hl 3 rfl) ?_
                          refine hv_get (ci := 6) (Cn := RX5) (T := TX5) (N := 21) (ref := "DividendDeskModel") (v := .ref (ad 18)) C I hM.1 wX5 rfl 18 (by decide) (by decide +kernel) (fun _ h9 => h9) rfl dX5_pay_172 ?_
                          refine lv_bipush (v := 20) C.1 C.2.1 dX5_pay_175 (by decide) ?_
                          refine lv_iload_n C.1 C.2.1 dX5_pay_177 rfl (lv_at hl 1 rfl) ?_
                          refine lv_imul C.1 C.2.1 dX5_pay_178 ?_
                          refine lv_iload C.1 C.2.1 dX5_pay_179 (lv_at hl 0 rfl) ?_
                          refine lv_iadd C.1 C.2.1 dX5_pay_181 ?_
                          refine lv_topi (fun z_25 ez_25 => ?_)
                          have ez_25 : z_25 = nI (20 * (20 * d) + (20 * i + i2)) := by rw [ez_25]; rw [ixM, nI_add]; exact congrArg nI (by omega)
                          subst ez_25
                          refine lv_aload_n C.1 C.2.1 dX5_pay_182 rfl (lv_at hl 3 rfl) ?_
                          refine hv_get (ci := 6) (Cn := RX5) (T := TX5) (N := 21) (ref := "DividendDeskModel") (v := .ref (ad 9)) C I hM.1 wX5 rfl 9 (by decide) (by decide +kernel) (fun _ h9 => h9) rfl dX5_pay_183 ?_
                          refine lv_bipush (v := 20) C.1 C.2.1 dX5_pay_186 (by decide) ?_
                          refine lv_iload_n C.1 C.2.1 dX5_pay_188 rfl (lv_at hl 2 rfl) ?_
                          refine lv_imul C.1 C.2.1 dX5_pay_189 ?_
                          refine lv_iload C.1 C.2.1 dX5_pay_190 (lv_at hl 0 rfl) ?_
                          refine lv_iadd C.1 C.2.1 dX5_pay_192 ?_
                          refine lv_topi (fun z_26 ez_26 => ?_)
                          have ez_26 : z_26 = nI (20 * i + i2) := by rw [ez_26]; exact ixN i i2
                          subst ez_26
                          refine hv_ialdN (n := 400) (f := ar 9) C I (isM_a hM 9 rfl) (show 20 * i + i2 < 400 by omega) (by decide) dX5_pay_193 ?_
                          refine hv_iastN (n := 16000) (f := (payP ar d (20 * i + i2))) C I (isM_a hM 18 rfl) (show 20 * (20 * d) + (20 * i + i2) < 16000 by omega) (by decide) dX5_pay_194 (fun H locs I => ?_)
                          obtain ⟨h_27, eh_27⟩ : ∃ z, z = hv_up h2 (ad 18) (.inl (G.2.1 0, 16000, .inl (upd (payP ar d (20 * i + i2)) (20 * (20 * d) + (20 * i + i2)) ((ar 9) (20 * i + i2))))) := ⟨_, rfl⟩
                          have I : hv_I G h s h_27 H locs := by rw [eh_27]; exact I
                          have hM : isM G h_27 o ad dy n d rf 0 (va_up (va_up (va_up (va_up (va_up (va_up (payL ar dy d p0 i) 12 (upd (payG ar d p0 i) (20 * d + i) (((ar 6) i) * p0))) 17 (upd (payV ar dy d i) (20 * d + i) (vp_nar .boolean (hf dy ((ar 7) i))))) 15 (upd (payS ar d i) (20 * d + i) (if ar 4 i = 2 then 30 else ar 1 (ar 5 i).toNatClampNeg))) 16 (upd (payO ar dy d i) (20 * d + i) (if ar 4 i = 2 then 30 else rtF dy (ar 1) (ar 2) (ar 4) (ar 5) (ar 6) (ar 8) i))) 18 (payP ar d (20 * i + i2))) 18 (upd (payP ar d (20 * i + i2)) (20 * (20 * d) + (20 * i + i2)) ((ar 9) (20 * i + i2)))) := isM_st hM 18 rfl eh_27
                          refine lv_iinc (v := nI (i2 + 1)) (lv' := [(4, .int (nI (i2 + 1))), (3, .int (nI (20 * d + i))), (2, .int (nI i)), (0, .ref o), (1, .int p0)]) C.1 C.2.1 dX5_pay_195 hl (k := 0) rfl (nI_1 i2) (by decide) rfl (fun ls hl => ?_)
                          refine lv_goto (tgt := 164) C.1 C.2.1 dX5_pay_198 (by decide) ?_
                          exact ih2 (i2 + 1) (by omega) (by omega) _ _ _ (isM_ar hM (by rw [va_up_up]; exact congrArg _ (fill_1 _ _ (ar 9) (20 * i + i2)))) I ls (lv_sub hl [0, 1, 2, 3, 4] rfl)
                    exact loop2 (20 + 1) 0 (Nat.zero_le _) (by omega) _ _ _ (isM_ar hM (by rw [Nat.add_zero, show payP ar d (20 * i) = (va_up (va_up (va_up (va_up (payL ar dy d p0 i) 12 (upd (payG ar d p0 i) (20 * d + i) (((ar 6) i) * p0))) 17 (upd (payV ar dy d i) (20 * d + i) (vp_nar .boolean (hf dy ((ar 7) i))))) 15 (upd (payS ar d i) (20 * d + i) (if ar 4 i = 2 then 30 else ar 1 (ar 5 i).toNatClampNeg))) 16 (upd (payO ar dy d i) (20 * d + i) (if ar 4 i = 2 then 30 else rtF dy (ar 1) (ar 2) (ar 4) (ar 5) (ar 6) (ar 8) i))) 18 from rfl, va_up_id])) I ls (lv_sub hl [0, 1, 2, 3, 4] rfl)
                  refine lv_aload_n C.1 C.2.1 dX5_pay_140 rfl (lv_at hl 2 rfl) ?_
                  refine hv_get (ci := 6) (Cn := RX5) (T := TX5) (N := 21) (ref := "DividendDeskModel") (v := .ref (ad 4)) C I hM.1 wX5 rfl 4 (by decide) (by decide +kernel) (fun _ h9 => h9) rfl dX5_pay_141 ?_
                  refine lv_iload_n C.1 C.2.1 dX5_pay_144 rfl (lv_at hl 1 rfl) ?_
                  refine hv_ialdN (n := 20) (f := ar 4) C I (isM_a hM 4 rfl) (show i < 20 by omega) (by decide) dX5_pay_145 ?_
                  refine lv_iconst (v := 2) C.1 C.2.1 dX5_pay_146 (by decide) ?_
                  refine lv_icmp_ne (tgt := 155) C.1 C.2.1 dX5_pay_147 (by decide) (fun c147 => ?_) (fun c147 => ?_)
                  · refine lv_aload_n C.1 C.2.1 dX5_pay_155 rfl (lv_at hl 2 rfl) ?_
                    refine lv_iload_n C.1 C.2.1 dX5_pay_156 rfl (lv_at hl 1 rfl) ?_
                    refine hv_ki I (va_runV (As := [.int (nI i)]) (rest := [.int (nI (20 * d + i)), .ref (ad 16)]) C.fix (c_X5_rateOf l G h_22 _ hM i (show i < 20 by omega) (hld i hi65 c147)) (cwV 1 C.2.2.2.2.1 gX5_pay_X5_rateOf rfl rfl rfl (by decide +kernel) ⟨Nat.le_of_ble_eq_true rfl, Nat.le_of_ble_eq_true rfl⟩) (hv_preV C I hM.1 (r := (RX5, TX5, 21)) rfl) rfl rfl hl.1 rfl (lv_room (Nat.le_of_ble_eq_true rfl)) dX5_pay_157 ⟨Nat.le_of_ble_eq_true rfl, Nat.le_of_ble_eq_true rfl⟩) (fun ru_28 u_28 H locs pu_28 I => ?_)
                    obtain ⟨e1, e2⟩ := pu_28; have e1 := e1.symm; subst e1; have e2 := e2.symm; subst e2
                    exact J160 _ (by first | (simp [c147]; done) | ((repeat' split) <;> first | rfl | contradiction)) _ _ I
                  · refine lv_bipush (v := 30) C.1 C.2.1 dX5_pay_150 (by decide) ?_
                    refine lv_goto (tgt := 160) C.1 C.2.1 dX5_pay_152 (by decide) ?_
                    exact J160 _ (by first | (simp [c147]; done) | ((repeat' split) <;> first | rfl | contradiction)) _ _ I
                refine lv_aload_n C.1 C.2.1 dX5_pay_108 rfl (lv_at hl 2 rfl) ?_
                refine hv_get (ci := 6) (Cn := RX5) (T := TX5) (N := 21) (ref := "DividendDeskModel") (v := .ref (ad 4)) C I hM.1 wX5 rfl 4 (by decide) (by decide +kernel) (fun _ h9 => h9) rfl dX5_pay_109 ?_
                refine lv_iload_n C.1 C.2.1 dX5_pay_112 rfl (lv_at hl 1 rfl) ?_
                refine hv_ialdN (n := 20) (f := ar 4) C I (isM_a hM 4 rfl) (show i < 20 by omega) (by decide) dX5_pay_113 ?_
                refine lv_iconst (v := 2) C.1 C.2.1 dX5_pay_114 (by decide) ?_
                refine lv_icmp_ne (tgt := 123) C.1 C.2.1 dX5_pay_115 (by decide) (fun c115 => ?_) (fun c115 => ?_)
                · refine lv_aload_n C.1 C.2.1 dX5_pay_123 rfl (lv_at hl 2 rfl) ?_
                  refine hv_get (ci := 6) (Cn := RX5) (T := TX5) (N := 21) (ref := "DividendDeskModel") (v := .ref (ad 1)) C I hM.1 wX5 rfl 1 (by decide) (by decide +kernel) (fun _ h9 => h9) rfl dX5_pay_124 ?_
                  refine lv_aload_n C.1 C.2.1 dX5_pay_127 rfl (lv_at hl 2 rfl) ?_
                  refine hv_get (ci := 6) (Cn := RX5) (T := TX5) (N := 21) (ref := "DividendDeskModel") (v := .ref (ad 5)) C I hM.1 wX5 rfl 5 (by decide) (by decide +kernel) (fun _ h9 => h9) rfl dX5_pay_128 ?_
                  refine lv_iload_n C.1 C.2.1 dX5_pay_131 rfl (lv_at hl 1 rfl) ?_
                  refine hv_ialdN (n := 20) (f := ar 5) C I (isM_a hM 5 rfl) (show i < 20 by omega) (by decide) dX5_pay_132 ?_
                  refine hv_iald (n := 6) (f := ar 1) C I (isM_a hM 1 rfl) (hld i hi65 c115) dX5_pay_133 ?_
                  exact J134 _ (by first | (simp [c115]; done) | ((repeat' split) <;> first | rfl | contradiction)) _ _ I
                · refine lv_bipush (v := 30) C.1 C.2.1 dX5_pay_118 (by decide) ?_
                  refine lv_goto (tgt := 134) C.1 C.2.1 dX5_pay_120 (by decide) ?_
                  exact J134 _ (by first | (simp [c115]; done) | ((repeat' split) <;> first | rfl | contradiction)) _ _ I
          exact loop (n + 1) 0 (Nat.zero_le _) (by omega) _ _ _ (isM_ar hM (payL_0 ar dy d p0)) I ls (lv_sub hl [0, 1, 2] rfl)
        · exact absurd c40 (by decide)
      · refine lv_iconst (v := 2) C.1 C.2.1 dX5_pay_32 (by decide) ?_
        refine lv_goto (tgt := 37) C.1 C.2.1 dX5_pay_33 (by decide) ?_
        refine hv_ki I (va_runV (As := [.int 2]) (rest := []) C.fix (c_X5_can l G h _ hM 2) (cwV 1 C.2.2.2.2.1 gX5_pay_X5_can rfl rfl rfl (by decide +kernel) ⟨Nat.le_of_ble_eq_true rfl, Nat.le_of_ble_eq_true rfl⟩) (hv_preV C I hM.1 (r := (RX5, TX5, 21)) rfl) rfl rfl hl.1 rfl (lv_room (Nat.le_of_ble_eq_true rfl)) dX5_pay_37 ⟨Nat.le_of_ble_eq_true rfl, Nat.le_of_ble_eq_true rfl⟩) (fun ru_29 u_29 H locs pu_29 I => ?_)
        obtain ⟨e1, hM⟩ := pu_29; have e1 := e1.symm; subst e1
        refine lv_if_ne (tgt := 45) C.1 C.2.1 dX5_pay_40 (by decide) (fun c40 => ?_) (fun c40 => ?_)
        · exact absurd (by decide) c40
        · refine lv_iconst (v := 0) C.1 C.2.1 dX5_pay_43 (by decide) ?_
          exact hv_iret (v := 0) C hr I ((fun eF => ⟨fun z => absurd (eF.symm.trans z) (by decide), fun _ => by rw [eF]; exact hM⟩) (show fPy p0 d (l_sum (ar 6) n) = 2 by unfold fPy; first | (simp [c9, c22, c29, c40]; done) | ((repeat' split) <;> first | rfl | contradiction))) dX5_pay_44 (Nat.le_of_ble_eq_true rfl) (Nat.le_of_ble_eq_true rfl)
  · refine lv_iconst (v := 1) C.1 C.2.1 dX5_pay_12 (by decide) ?_
    refine lv_goto (tgt := 37) C.1 C.2.1 dX5_pay_13 (by decide) ?_
    refine hv_ki I (va_runV (As := [.int 1]) (rest := []) C.fix (c_X5_can l G h _ hM 1) (cwV 1 C.2.2.2.2.1 gX5_pay_X5_can rfl rfl rfl (by decide +kernel) ⟨Nat.le_of_ble_eq_true rfl, Nat.le_of_ble_eq_true rfl⟩) (hv_preV C I hM.1 (r := (RX5, TX5, 21)) rfl) rfl rfl hl.1 rfl (lv_room (Nat.le_of_ble_eq_true rfl)) dX5_pay_37 ⟨Nat.le_of_ble_eq_true rfl, Nat.le_of_ble_eq_true rfl⟩) (fun ru_30 u_30 H locs pu_30 I => ?_)
    obtain ⟨e1, hM⟩ := pu_30; have e1 := e1.symm; subst e1
    refine lv_if_ne (tgt := 45) C.1 C.2.1 dX5_pay_40 (by decide) (fun c40 => ?_) (fun c40 => ?_)
    · exact absurd (by decide) c40
    · refine lv_iconst (v := 0) C.1 C.2.1 dX5_pay_43 (by decide) ?_
      exact hv_iret (v := 0) C hr I ((fun eF => ⟨fun z => absurd (eF.symm.trans z) (by decide), fun _ => by rw [eF]; exact hM⟩) (show fPy p0 d (l_sum (ar 6) n) = 1 by unfold fPy; first | (simp [c9, c40]; done) | ((repeat' split) <;> first | rfl | contradiction))) dX5_pay_44 (Nat.le_of_ble_eq_true rfl) (Nat.le_of_ble_eq_true rfl)
