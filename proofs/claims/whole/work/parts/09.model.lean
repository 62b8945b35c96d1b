/-! ===== the reference: its object and its arrays, method by method ===== -/
def mArr : Nat → Bool := fun j => match j with
  | 1 => true | 2 => true | 4 => true | 5 => true | 6 => true | 7 => true | 8 => true | 9 => true
  | 11 => true | 12 => true | 13 => true | 14 => true | 15 => true | 16 => true | 17 => true | 18 => true | _ => false
def mLen : Nat → Nat := fun j => match j with
  | 1 => 6 | 2 => 6 | 4 => 20 | 5 => 20 | 6 => 20 | 7 => 20 | 8 => 20 | 9 => 400 | 11 => 40 | 18 => 16000 | _ => 800
def mKd : Nat → Nat := fun j => match j with | 17 => 1 | _ => 0
abbrev mObj (ad : Nat → Nat) (dy : Int32) (n d : Nat) (rf : Int64) (th : Int32) : va_E := .inr (6, [.int dy, .ref (ad 1), .ref (ad 2), .int (nI n), .ref (ad 4), .ref (ad 5), .ref (ad 6), .ref (ad 7), .ref (ad 8), .ref (ad 9), .int (nI d), .ref (ad 11), .ref (ad 12), .ref (ad 13), .ref (ad 14), .ref (ad 15), .ref (ad 16), .ref (ad 17), .ref (ad 18), .long rf, .int th])
/-- the reference's state in a view: the object at o, the arrays at ad j, holding ar j -/
def isM (G : hv_G) (h : hv) (o : Nat) (ad : Nat → Nat) (dy : Int32) (n d : Nat) (rf : Int64) (th : Int32) (ar : Nat → Nat → Int32) : Prop :=
  h o = some (mObj ad dy n d rf th) ∧ (∀ j, mArr j = true → h (ad j) = some (.inl (G.2.1 (mKd j), mLen j, .inl (ar j)))) ∧ ∀ i j, mArr i = true → mArr j = true → ad i = ad j → i = j
theorem isM_a {G : hv_G} {h : hv} {o : Nat} {ad : Nat → Nat} {dy : Int32} {n d : Nat} {rf : Int64} {th : Int32} {ar : Nat → Nat → Int32} (hM : isM G h o ad dy n d rf th ar) (j : Nat) (hj : mArr j = true) : h (ad j) = some (.inl (G.2.1 (mKd j), mLen j, .inl (ar j))) := hM.2.1 j hj
theorem isM_o {G : hv_G} {h h1 : hv} {o : Nat} {ad : Nat → Nat} {dy dy2 : Int32} {n d n2 d2 : Nat} {rf rf2 : Int64} {th th2 : Int32} {ar : Nat → Nat → Int32} (hM : isM G h o ad dy n d rf th ar) (e : h1 = hv_up h o (mObj ad dy2 n2 d2 rf2 th2)) : isM G h1 o ad dy2 n2 d2 rf2 th2 ar :=
  ⟨by rw [e]; exact hv_up_eq, fun j hj => by rw [e, hv_up_ne (hv_neAO (hM.2.1 j hj) hM.1)]; exact hM.2.1 j hj, hM.2.2⟩
theorem isM_st {G : hv_G} {h h1 : hv} {o : Nat} {ad : Nat → Nat} {dy : Int32} {n d : Nat} {rf : Int64} {th : Int32} {ar : Nat → Nat → Int32} (hM : isM G h o ad dy n d rf th ar) (j : Nat) (hj : mArr j = true) {F : Nat → Int32} (e : h1 = hv_up h (ad j) (.inl (G.2.1 (mKd j), mLen j, .inl F))) : isM G h1 o ad dy n d rf th (va_up ar j F) := by
  refine ⟨by rw [e, hv_up_ne (hv_neOA hM.1 (hM.2.1 j hj))]; exact hM.1, fun i hi => ?_, hM.2.2⟩
  by_cases c : i = j
  · subst c
    rw [e, hv_up_eq, va_up_self]
  · rw [e, hv_up_ne (fun z => c (hM.2.2 i j hi hj z)), va_up_ne _ _ c]
    exact hM.2.1 i hi
theorem isM_ar {G : hv_G} {h : hv} {o : Nat} {ad : Nat → Nat} {dy : Int32} {n d : Nat} {rf : Int64} {th : Int32} {ar ar2 : Nat → Nat → Int32} (hM : isM G h o ad dy n d rf th ar) (e : ar = ar2) : isM G h o ad dy n d rf th ar2 := e ▸ hM
/-! numbers -/
def cz (f : Int32) : Int32 := if ¬ f = 0 then 0 else 1
theorem iw_no {n a b : Int32} (h : ¬ iw n a b = 0) : ¬ n < a ∧ ¬ b < n := by
  unfold iw at h
  by_cases h1 : n < a
  · simp [h1] at h
  · by_cases h2 : b < n
    · simp [h1, h2] at h
    · exact ⟨h1, h2⟩
theorem iw_vp {n : Int32} {k : Nat} (hk : k + 1 < 2 ^ 31) (h : ¬ iw n 0 (nI k) = 0) : vp_in n (k + 1) := by
  obtain ⟨h1, h2⟩ := iw_no h
  obtain ⟨j, hj, rfl⟩ := nI_of h1
  refine vp_in_nI ?_ hk
  apply Nat.lt_of_not_le
  intro z
  exact h2 (nI_lt (by omega) hj)
theorem vp_in_le {x : Int32} {n k : Nat} (h : vp_in x n) (hn : n ≤ k) : vp_in x k := fun z => h (z.imp id (fun w => Nat.le_trans hn w))
theorem iwh_ex {p : Int32} {n : Nat} (hn : n ≤ 1000) (h : ¬ iw p 0 (nI n - 1) = 0) : ∃ j : Nat, j < n ∧ p = nI j := by
  obtain ⟨h1, h2⟩ := iw_no h
  obtain ⟨j, hj, rfl⟩ := nI_of h1
  cases n with
  | zero => exact absurd (show nI 0 - 1 < nI j by
      rw [Int32.lt_iff_toInt_lt, nI_toInt hj]
      have : (nI 0 - 1 : Int32).toInt = -1 := by decide
      omega) h2
  | succ k =>
    rw [nI_pred] at h2
    refine ⟨j, ?_, rfl⟩
    apply Nat.lt_of_not_le
    intro z
    exact h2 (nI_lt (by omega) hj)
theorem iwh_vp {p : Int32} {n : Nat} (N : Nat) (hn : n ≤ N) (hN : N ≤ 1000) (h : ¬ iw p 0 (nI n - 1) = 0) : vp_in p N := by
  obtain ⟨j, hj, rfl⟩ := iwh_ex (by omega) h
  exact vp_in_nI (by omega) (by omega)
theorem ix20 {p q : Int32} {A : Nat} (h1 : vp_in p A) (hA : A ≤ 1000) (h2 : vp_in q 20) : 20 * p + q = nI (20 * p.toNatClampNeg + q.toNatClampNeg) ∧ 20 * p.toNatClampNeg + q.toNatClampNeg < 20 * A := by
  obtain ⟨i, hi, rfl⟩ := vp_in_of h1 (by omega)
  obtain ⟨j, hj, rfl⟩ := vp_in_of h2 (by omega)
  rw [nI_clamp (by omega), nI_clamp (by omega)]
  refine ⟨?_, by omega⟩
  rw [show (20 : Int32) = nI 20 from rfl, pk_mul, nI_add]
theorem vp_tn {p : Int32} {n : Nat} (h : vp_in p n) (hn : n < 2 ^ 31) : p.toNatClampNeg < n := by
  obtain ⟨i, hi, rfl⟩ := vp_in_of h hn
  rw [nI_clamp (by omega)]
  exact hi
theorem z_bool {x : Int32} (h : x = 0 ∨ x = 1) : narrow .boolean (.int x) = .int x := by rcases h with rfl | rfl <;> rfl
def cnt (dy vt wv of an : Int32) : Int32 := if ¬ an = 0 then 1 else if ¬ wv = 0 then 1 else if of = 0 then 0 else if hf dy vt = 0 then 0 else 1
def fTr (a b d : Int32) : Int32 := if iw a 0 5 = 0 then 1 else if iw b 0 30 = 0 then 1 else if iw d 0 30 = 0 then 1 else 0
def fAh (a b : Int32) (n : Nat) : Int32 := if iw a 0 2 = 0 then 1 else if a = 2 then (if b = -1 then (if nI n = 20 then 2 else 0) else 1) else if iw b 0 5 = 0 then 1 else if nI n = 20 then 2 else 0
def fSp (a b k : Int32) (n : Nat) (kd : Nat → Int32) : Int32 := if iw a 0 (nI n - 1) = 0 then 1 else if iw b 0 (nI n - 1) = 0 then 1 else if ¬ kd a.toNatClampNeg = 2 then 2 else if kd b.toNatClampNeg = 2 then 2 else if iw k 0 100 = 0 then 2 else 0
def fSs (a b : Int32) (n : Nat) (sh : Nat → Int32) : Int32 := if iw a 0 (nI n - 1) = 0 then 1 else if iw b 0 1000000 = 0 then 2 else if l_sum sh n - sh a.toNatClampNeg + b ≤ 1000000 then 0 else 3
def fGf (a : Int32) (n : Nat) : Int32 := if iw a 0 (nI n - 1) = 0 then 1 else 0
def fPs (a dy : Int32) : Int32 := if iw a 1 2000 = 0 then 1 else if dy + a ≤ 20000 then 0 else 2
/-- the days since when, for the first k holders -/
def psS (sh es : Nat → Int32) (dy : Int32) (k : Nat) : Nat → Int32 := fun j => if j < k then sinceF (sh j) (es j) dy else es j
theorem psS_0 (sh es : Nat → Int32) (dy : Int32) : psS sh es dy 0 = es := by funext j; simp [psS]
theorem psS_1 (sh es : Nat → Int32) (dy : Int32) (k : Nat) : upd (psS sh es dy k) k (sinceF (sh k) (es k) dy) = psS sh es dy (k + 1) := by
  funext j
  unfold upd psS
  by_cases h : j = k
  · subst h; simp
  · by_cases h2 : j < k
    · simp [h, h2, show j < k + 1 by omega]
    · simp [h, h2, show ¬ j < k + 1 by omega]
theorem psS_at (sh es : Nat → Int32) (dy : Int32) (k : Nat) : psS sh es dy k k = es k := by simp [psS]
theorem va_up_up {α : Type} (f : Nat → α) (k : Nat) (v w : α) : va_up (va_up f k v) k w = va_up f k w := by
  funext j
  unfold va_up
  by_cases h : j = k <;> simp [h]
theorem va_up_id {α : Type} (f : Nat → α) (k : Nat) : va_up f k (f k) = f := by
  funext j
  unfold va_up
  by_cases h : j = k <;> simp [h]
set_option maxHeartbeats 4000000 in
set_option maxRecDepth 100000 in
theorem c_X5_thrown (l : Launch) (G : hv_G) (h : hv) (sz : Nat) {o : Nat} {ad : Nat → Nat} {dy : Int32} {n d : Nat} {rf : Int64} {th : Int32} {ar : Nat → Nat → Int32} (hM : isM G h o ad dy n d rf th ar) : hv_Mi l yX5_thrown wsX5_thrown 0 0 0 0 G h sz [.ref o] (fun r u => u = h ∧ r = th) := by
  have wX5 : ∀ w ∈ wsX50, w ∈ wsX5_thrown := by decide +kernel
  refine hv_enter (y := yX5_thrown) (avs := [.ref o]) (maxL := 1) (Qf := fun sz => va_Qi (fun r u => u = h ∧ r = th) (hv_Bq G h sz) (hv_A h sz)) (by decide) rfl rfl (Nat.le_of_ble_eq_true rfl) ?_
  intro p e s m below meth c hr hnm C I ls hl
  have hl : lv_has ls 1 [(0, .ref o)] := hl
  refine lv_aload_n C.1 C.2.1 dX5_thrown_0 rfl (lv_at hl 0 rfl) ?_
  refine hv_get (ci := 6) (Cn := RX5) (T := TX5) (N := 21) (ref := "DividendDeskModel") (v := .int th) C I hM.1 wX5 rfl 20 (by decide) (by decide +kernel) (fun _ h9 => h9) rfl dX5_thrown_1 ?_
  exact hv_iret (v := th) C hr I (⟨rfl, rfl⟩) dX5_thrown_4 (Nat.le_of_ble_eq_true rfl) (Nat.le_of_ble_eq_true rfl)

set_option maxHeartbeats 4000000 in
set_option maxRecDepth 100000 in
theorem c_X5_can (l : Launch) (G : hv_G) (h : hv) (sz : Nat) {o : Nat} {ad : Nat → Nat} {dy : Int32} {n d : Nat} {rf : Int64} {th : Int32} {ar : Nat → Nat → Int32} (hM : isM G h o ad dy n d rf th ar) (p0 : Int32) : hv_Mi l yX5_can wsX5_can 0 0 0 0 G h sz [.ref o, .int p0] (fun r u => r = cz p0 ∧ isM G u o ad dy n d rf p0 ar) := by
  have wX5 : ∀ w ∈ wsX50, w ∈ wsX5_can := by decide +kernel
  refine hv_enter (y := yX5_can) (avs := [.ref o, .int p0]) (maxL := 2) (Qf := fun sz => va_Qi (fun r u => r = cz p0 ∧ isM G u o ad dy n d rf p0 ar) (hv_Bq G h sz) (hv_A h sz)) (by decide) rfl rfl (Nat.le_of_ble_eq_true rfl) ?_
  intro p e s m below meth c hr hnm C I ls hl
  have hl : lv_has ls 2 [(0, .ref o), (1, .int p0)] := hl
  refine lv_aload_n C.1 C.2.1 dX5_can_0 rfl (lv_at hl 0 rfl) ?_
  refine lv_iload_n C.1 C.2.1 dX5_can_1 rfl (lv_at hl 1 rfl) ?_
  refine hv_put (ci := 6) (Cn := RX5) (T := TX5) (N := 21) (ref := "DividendDeskModel") (ty := .int) (v := .int p0) C I hM.1 wX5 tyX5 tyX5_ok nmX5 rfl 20 (by decide) (by decide +kernel) (fun _ h9 => h9) rfl (by decide +kernel) rfl rfl (Nat.le_of_ble_eq_true rfl) dX5_can_2 (fun H locs I => ?_)
  have I : hv_I G h s (hv_up h o (.inr (6, [.int dy, .ref (ad 1), .ref (ad 2), .int (nI n), .ref (ad 4), .ref (ad 5), .ref (ad 6), .ref (ad 7), .ref (ad 8), .ref (ad 9), .int (nI d), .ref (ad 11), .ref (ad 12), .ref (ad 13), .ref (ad 14), .ref (ad 15), .ref (ad 16), .ref (ad 17), .ref (ad 18), .long rf, .int p0]))) H locs := I
  obtain ⟨h_1, eh_1⟩ : ∃ z, z = hv_up h o (.inr (6, [.int dy, .ref (ad 1), .ref (ad 2), .int (nI n), .ref (ad 4), .ref (ad 5), .ref (ad 6), .ref (ad 7), .ref (ad 8), .ref (ad 9), .int (nI d), .ref (ad 11), .ref (ad 12), .ref (ad 13), .ref (ad 14), .ref (ad 15), .ref (ad 16), .ref (ad 17), .ref (ad 18), .long rf, .int p0])) := ⟨_, rfl⟩
  have I : hv_I G h s h_1 H locs := by rw [eh_1]; exact I
  have hM : isM G h_1 o ad dy n d rf p0 ar := isM_o hM eh_1
  refine lv_iload_n C.1 C.2.1 dX5_can_5 rfl (lv_at hl 1 rfl) ?_
  refine lv_if_ne (tgt := 13) C.1 C.2.1 dX5_can_6 (by decide) (fun c6 => ?_) (fun c6 => ?_)
  · refine lv_iconst (v := 0) C.1 C.2.1 dX5_can_13 (by decide) ?_
    exact hv_zret (v := 0) C hr I rfl (⟨by unfold cz; simp [c6], hM⟩) dX5_can_14 (Nat.le_of_ble_eq_true rfl) (Nat.le_of_ble_eq_true rfl)
  · refine lv_iconst (v := 1) C.1 C.2.1 dX5_can_9 (by decide) ?_
    refine lv_goto (tgt := 14) C.1 C.2.1 dX5_can_10 (by decide) ?_
    exact hv_zret (v := 1) C hr I rfl (⟨by unfold cz; simp [c6], hM⟩) dX5_can_14 (Nat.le_of_ble_eq_true rfl) (Nat.le_of_ble_eq_true rfl)

set_option maxHeartbeats 4000000 in
set_option maxRecDepth 100000 in
theorem c_X5_isHolder (l : Launch) (G : hv_G) (h : hv) (sz : Nat) {o : Nat} {ad : Nat → Nat} {dy : Int32} {n d : Nat} {rf : Int64} {th : Int32} {ar : Nat → Nat → Int32} (hM : isM G h o ad dy n d rf th ar) (p0 : Int32) : hv_Mi l yX5_isHolder wsX5_isHolder 1 30 0 0 G h sz [.ref o, .int p0] (fun r u => u = h ∧ r = iw p0 0 (nI n - 1)) := by
  have wX5 : ∀ w ∈ wsX50, w ∈ wsX5_isHolder := by decide +kernel
  refine hv_enter (y := yX5_isHolder) (avs := [.ref o, .int p0]) (maxL := 2) (Qf := fun sz => va_Qi (fun r u => u = h ∧ r = iw p0 0 (nI n - 1)) (hv_Bq G h sz) (hv_A h sz)) (by decide) rfl rfl (Nat.le_of_ble_eq_true rfl) ?_
  intro p e s m below meth c hr hnm C I ls hl
  have hl : lv_has ls 2 [(0, .ref o), (1, .int p0)] := hl
  refine lv_iload_n C.1 C.2.1 dX5_isHolder_0 rfl (lv_at hl 1 rfl) ?_
  refine lv_iconst (v := 0) C.1 C.2.1 dX5_isHolder_1 (by decide) ?_
  refine lv_aload_n C.1 C.2.1 dX5_isHolder_2 rfl (lv_at hl 0 rfl) ?_
  refine hv_get (ci := 6) (Cn := RX5) (T := TX5) (N := 21) (ref := "DividendDeskModel") (v := .int (nI n)) C I hM.1 wX5 rfl 3 (by decide) (by decide +kernel) (fun _ h9 => h9) rfl dX5_isHolder_3 ?_
  refine lv_iconst (v := 1) C.1 C.2.1 dX5_isHolder_6 (by decide) ?_
  refine lv_isub C.1 C.2.1 dX5_isHolder_7 ?_
  refine hv_ki I (va_runS (As := [.int p0, .int 0, .int ((nI n) - 1)]) (rest := []) C.fix (c_X5_isIn l G h _ p0 0 ((nI n) - 1)) (va_cwS 3 C.2.2.2.2.1 gX5_isHolder_X5_isIn rfl rfl rfl (by decide +kernel) ⟨Nat.le_of_ble_eq_true rfl, Nat.le_of_ble_eq_true rfl⟩) (hv_preS C I) rfl rfl hl.1 rfl (lv_room (Nat.le_of_ble_eq_true rfl)) dX5_isHolder_8 ⟨Nat.le_of_ble_eq_true rfl, Nat.le_of_ble_eq_true rfl⟩) (fun ru_1 u_1 H locs pu_1 I => ?_)
  obtain ⟨e1, e2⟩ := pu_1; have e1 := e1.symm; subst e1; have e2 := e2.symm; subst e2
  exact hv_zret (v := (iw p0 0 ((nI n) - 1))) C hr I (iw_bool _ _ _) (⟨rfl, rfl⟩) dX5_isHolder_11 (Nat.le_of_ble_eq_true rfl) (Nat.le_of_ble_eq_true rfl)

set_option maxHeartbeats 4000000 in
set_option maxRecDepth 100000 in
theorem c_X5_isDividend (l : Launch) (G : hv_G) (h : hv) (sz : Nat) {o : Nat} {ad : Nat → Nat} {dy : Int32} {n d : Nat} {rf : Int64} {th : Int32} {ar : Nat → Nat → Int32} (hM : isM G h o ad dy n d rf th ar) (p0 : Int32) : hv_Mi l yX5_isDividend wsX5_isDividend 1 30 0 0 G h sz [.ref o, .int p0] (fun r u => u = h ∧ r = iw p0 0 (nI d - 1)) := by
  have wX5 : ∀ w ∈ wsX50, w ∈ wsX5_isDividend := by decide +kernel
  refine hv_enter (y := yX5_isDividend) (avs := [.ref o, .int p0]) (maxL := 2) (Qf := fun sz => va_Qi (fun r u => u = h ∧ r = iw p0 0 (nI d - 1)) (hv_Bq G h sz) (hv_A h sz)) (by decide) rfl rfl (Nat.le_of_ble_eq_true rfl) ?_
  intro p e s m below meth c hr hnm C I ls hl
  have hl : lv_has ls 2 [(0, .ref o), (1, .int p0)] := hl
  refine lv_iload_n C.1 C.2.1 dX5_isDividend_0 rfl (lv_at hl 1 rfl) ?_
  refine lv_iconst (v := 0) C.1 C.2.1 dX5_isDividend_1 (by decide) ?_
  refine lv_aload_n C.1 C.2.1 dX5_isDividend_2 rfl (lv_at hl 0 rfl) ?_
  refine hv_get (ci := 6) (Cn := RX5) (T := TX5) (N := 21) (ref := "DividendDeskModel") (v := .int (nI d)) C I hM.1 wX5 rfl 10 (by decide) (by decide +kernel) (fun _ h9 => h9) rfl dX5_isDividend_3 ?_
  refine lv_iconst (v := 1) C.1 C.2.1 dX5_isDividend_6 (by decide) ?_
  refine lv_isub C.1 C.2.1 dX5_isDividend_7 ?_
  refine hv_ki I (va_runS (As := [.int p0, .int 0, .int ((nI d) - 1)]) (rest := []) C.fix (c_X5_isIn l G h _ p0 0 ((nI d) - 1)) (va_cwS 3 C.2.2.2.2.1 gX5_isDividend_X5_isIn rfl rfl rfl (by decide +kernel) ⟨Nat.le_of_ble_eq_true rfl, Nat.le_of_ble_eq_true rfl⟩) (hv_preS C I) rfl rfl hl.1 rfl (lv_room (Nat.le_of_ble_eq_true rfl)) dX5_isDividend_8 ⟨Nat.le_of_ble_eq_true rfl, Nat.le_of_ble_eq_true rfl⟩) (fun ru_1 u_1 H locs pu_1 I => ?_)
  obtain ⟨e1, e2⟩ := pu_1; have e1 := e1.symm; subst e1; have e2 := e2.symm; subst e2
  exact hv_zret (v := (iw p0 0 ((nI d) - 1))) C hr I (iw_bool _ _ _) (⟨rfl, rfl⟩) dX5_isDividend_11 (Nat.le_of_ble_eq_true rfl) (Nat.le_of_ble_eq_true rfl)

set_option maxHeartbeats 4000000 in
set_option maxRecDepth 100000 in
theorem c_X5_day (l : Launch) (G : hv_G) (h : hv) (sz : Nat) {o : Nat} {ad : Nat → Nat} {dy : Int32} {n d : Nat} {rf : Int64} {th : Int32} {ar : Nat → Nat → Int32} (hM : isM G h o ad dy n d rf th ar) : hv_Mi l yX5_day wsX5_day 0 0 0 0 G h sz [.ref o] (fun r u => r = dy ∧ isM G u o ad dy n d rf 0 ar) := by
  have wX5 : ∀ w ∈ wsX50, w ∈ wsX5_day := by decide +kernel
  refine hv_enter (y := yX5_day) (avs := [.ref o]) (maxL := 1) (Qf := fun sz => va_Qi (fun r u => r = dy ∧ isM G u o ad dy n d rf 0 ar) (hv_Bq G h sz) (hv_A h sz)) (by decide) rfl rfl (Nat.le_of_ble_eq_true rfl) ?_
  intro p e s m below meth c hr hnm C I ls hl
  have hl : lv_has ls 1 [(0, .ref o)] := hl
  refine lv_aload_n C.1 C.2.1 dX5_day_0 rfl (lv_at hl 0 rfl) ?_
  refine lv_iconst (v := 0) C.1 C.2.1 dX5_day_1 (by decide) ?_
  refine hv_put (ci := 6) (Cn := RX5) (T := TX5) (N := 21) (ref := "DividendDeskModel") (ty := .int) (v := .int 0) C I hM.1 wX5 tyX5 tyX5_ok nmX5 rfl 20 (by decide) (by decide +kernel) (fun _ h9 => h9) rfl (by decide +kernel) rfl rfl (Nat.le_of_ble_eq_true rfl) dX5_day_2 (fun H locs I => ?_)
  have I : hv_I G h s (hv_up h o (.inr (6, [.int dy, .ref (ad 1), .ref (ad 2), .int (nI n), .ref (ad 4), .ref (ad 5), .ref (ad 6), .ref (ad 7), .ref (ad 8), .ref (ad 9), .int (nI d), .ref (ad 11), .ref (ad 12), .ref (ad 13), .ref (ad 14), .ref (ad 15), .ref (ad 16), .ref (ad 17), .ref (ad 18), .long rf, .int 0]))) H locs := I
  obtain ⟨h_1, eh_1⟩ : ∃ z, z = hv_up h o (.inr (6, [.int dy, .ref (ad 1), .ref (ad 2), .int (nI n), .ref (ad 4), .ref (ad 5), .ref (ad 6), .ref (ad 7), .ref (ad 8), .ref (ad 9), .int (nI d), .ref (ad 11), .ref (ad 12), .ref (ad 13), .ref (ad 14), .ref (ad 15), .ref (ad 16), .ref (ad 17), .ref (ad 18), .long rf, .int 0])) := ⟨_, rfl⟩
  have I : hv_I G h s h_1 H locs := by rw [eh_1]; exact I
  have hM : isM G h_1 o ad dy n d rf 0 ar := isM_o hM eh_1
  refine lv_aload_n C.1 C.2.1 dX5_day_5 rfl (lv_at hl 0 rfl) ?_
  refine hv_get (ci := 6) (Cn := RX5) (T := TX5) (N := 21) (ref := "DividendDeskModel") (v := .int dy) C I hM.1 wX5 rfl 0 (by decide) (by decide +kernel) (fun _ h9 => h9) rfl dX5_day_6 ?_
  exact hv_iret (v := dy) C hr I (⟨rfl, hM⟩) dX5_day_9 (Nat.le_of_ble_eq_true rfl) (Nat.le_of_ble_eq_true rfl)

set_option maxHeartbeats 4000000 in
set_option maxRecDepth 100000 in
theorem c_X5_dividends (l : Launch) (G : hv_G) (h : hv) (sz : Nat) {o : Nat} {ad : Nat → Nat} {dy : Int32} {n d : Nat} {rf : Int64} {th : Int32} {ar : Nat → Nat → Int32} (hM : isM G h o ad dy n d rf th ar) : hv_Mi l yX5_dividends wsX5_dividends 0 0 0 0 G h sz [.ref o] (fun r u => r = nI d ∧ isM G u o ad dy n d rf 0 ar) := by
  have wX5 : ∀ w ∈ wsX50, w ∈ wsX5_dividends := by decide +kernel
  refine hv_enter (y := yX5_dividends) (avs := [.ref o]) (maxL := 1) (Qf := fun sz => va_Qi (fun r u => r = nI d ∧ isM G u o ad dy n d rf 0 ar) (hv_Bq G h sz) (hv_A h sz)) (by decide) rfl rfl (Nat.le_of_ble_eq_true rfl) ?_
  intro p e s m below meth c hr hnm C I ls hl
  have hl : lv_has ls 1 [(0, .ref o)] := hl
  refine lv_aload_n C.1 C.2.1 dX5_dividends_0 rfl (lv_at hl 0 rfl) ?_
  refine lv_iconst (v := 0) C.1 C.2.1 dX5_dividends_1 (by decide) ?_
  refine hv_put (ci := 6) (Cn := RX5) (T := TX5) (N := 21) (ref := "DividendDeskModel") (ty := .int) (v := .int 0) C I hM.1 wX5 tyX5 tyX5_ok nmX5 rfl 20 (by decide) (by decide +kernel) (fun _ h9 => h9) rfl (by decide +kernel) rfl rfl (Nat.le_of_ble_eq_true rfl) dX5_dividends_2 (fun H locs I => ?_)
  have I : hv_I G h s (hv_up h o (.inr (6, [.int dy, .ref (ad 1), .ref (ad 2), .int (nI n), .ref (ad 4), .ref (ad 5), .ref (ad 6), .ref (ad 7), .ref (ad 8), .ref (ad 9), .int (nI d), .ref (ad 11), .ref (ad 12), .ref (ad 13), .ref (ad 14), .ref (ad 15), .ref (ad 16), .ref (ad 17), .ref (ad 18), .long rf, .int 0]))) H locs := I
  obtain ⟨h_1, eh_1⟩ : ∃ z, z = hv_up h o (.inr (6, [.int dy, .ref (ad 1), .ref (ad 2), .int (nI n), .ref (ad 4), .ref (ad 5), .ref (ad 6), .ref (ad 7), .ref (ad 8), .ref (ad 9), .int (nI d), .ref (ad 11), .ref (ad 12), .ref (ad 13), .ref (ad 14), .ref (ad 15), .ref (ad 16), .ref (ad 17), .ref (ad 18), .long rf, .int 0])) := ⟨_, rfl⟩
  have I : hv_I G h s h_1 H locs := by rw [eh_1]; exact I
  have hM : isM G h_1 o ad dy n d rf 0 ar := isM_o hM eh_1
  refine lv_aload_n C.1 C.2.1 dX5_dividends_5 rfl (lv_at hl 0 rfl) ?_
  refine hv_get (ci := 6) (Cn := RX5) (T := TX5) (N := 21) (ref := "DividendDeskModel") (v := .int (nI d)) C I hM.1 wX5 rfl 10 (by decide) (by decide +kernel) (fun _ h9 => h9) rfl dX5_dividends_6 ?_
  exact hv_iret (v := (nI d)) C hr I (⟨rfl, hM⟩) dX5_dividends_9 (Nat.le_of_ble_eq_true rfl) (Nat.le_of_ble_eq_true rfl)

set_option maxHeartbeats 4000000 in
set_option maxRecDepth 100000 in
theorem c_X5_refunded (l : Launch) (G : hv_G) (h : hv) (sz : Nat) {o : Nat} {ad : Nat → Nat} {dy : Int32} {n d : Nat} {rf : Int64} {th : Int32} {ar : Nat → Nat → Int32} (hM : isM G h o ad dy n d rf th ar) : hv_Ml l yX5_refunded wsX5_refunded 0 0 0 0 G h sz [.ref o] (fun r u => r = rf ∧ isM G u o ad dy n d rf 0 ar) := by
  have wX5 : ∀ w ∈ wsX50, w ∈ wsX5_refunded := by decide +kernel
  refine hv_enter (y := yX5_refunded) (avs := [.ref o]) (maxL := 1) (Qf := fun sz => va_Ql (fun r u => r = rf ∧ isM G u o ad dy n d rf 0 ar) (hv_Bq G h sz) (hv_A h sz)) (by decide) rfl rfl (Nat.le_of_ble_eq_true rfl) ?_
  intro p e s m below meth c hr hnm C I ls hl
  have hl : lv_has ls 1 [(0, .ref o)] := hl
  refine lv_aload_n C.1 C.2.1 dX5_refunded_0 rfl (lv_at hl 0 rfl) ?_
  refine lv_iconst (v := 0) C.1 C.2.1 dX5_refunded_1 (by decide) ?_
  refine hv_put (ci := 6) (Cn := RX5) (T := TX5) (N := 21) (ref := "DividendDeskModel") (ty := .int) (v := .int 0) C I hM.1 wX5 tyX5 tyX5_ok nmX5 rfl 20 (by decide) (by decide +kernel) (fun _ h9 => h9) rfl (by decide +kernel) rfl rfl (Nat.le_of_ble_eq_true rfl) dX5_refunded_2 (fun H locs I => ?_)
  have I : hv_I G h s (hv_up h o (.inr (6, [.int dy, .ref (ad 1), .ref (ad 2), .int (nI n), .ref (ad 4), .ref (ad 5), .ref (ad 6), .ref (ad 7), .ref (ad 8), .ref (ad 9), .int (nI d), .ref (ad 11), .ref (ad 12), .ref (ad 13), .ref (ad 14), .ref (ad 15), .ref (ad 16), .ref (ad 17), .ref (ad 18), .long rf, .int 0]))) H locs := I
  obtain ⟨h_1, eh_1⟩ : ∃ z, z = hv_up h o (.inr (6, [.int dy, .ref (ad 1), .ref (ad 2), .int (nI n), .ref (ad 4), .ref (ad 5), .ref (ad 6), .ref (ad 7), .ref (ad 8), .ref (ad 9), .int (nI d), .ref (ad 11), .ref (ad 12), .ref (ad 13), .ref (ad 14), .ref (ad 15), .ref (ad 16), .ref (ad 17), .ref (ad 18), .long rf, .int 0])) := ⟨_, rfl⟩
  have I : hv_I G h s h_1 H locs := by rw [eh_1]; exact I
  have hM : isM G h_1 o ad dy n d rf 0 ar := isM_o hM eh_1
  refine lv_aload_n C.1 C.2.1 dX5_refunded_5 rfl (lv_at hl 0 rfl) ?_
  refine hv_get (ci := 6) (Cn := RX5) (T := TX5) (N := 21) (ref := "DividendDeskModel") (v := .long rf) C I hM.1 wX5 rfl 19 (by decide) (by decide +kernel) (fun _ h9 => h9) rfl dX5_refunded_6 ?_
  exact hv_lret (v := rf) C hr I (⟨rfl, hM⟩) dX5_refunded_9 (Nat.le_of_ble_eq_true rfl) (Nat.le_of_ble_eq_true rfl)

set_option maxHeartbeats 4000000 in
set_option maxRecDepth 100000 in
theorem c_X5_setTreaty (l : Launch) (G : hv_G) (h : hv) (sz : Nat) {o : Nat} {ad : Nat → Nat} {dy : Int32} {n d : Nat} {rf : Int64} {th : Int32} {ar : Nat → Nat → Int32} (hM : isM G h o ad dy n d rf th ar) (p0 p1 p2 : Int32) : hv_Mi l yX5_setTreaty wsX5_setTreaty 2 60 0 0 G h sz [.ref o, .int p0, .int p1, .int p2] (fun r u => (fTr p0 p1 p2 = 0 → (r = ar 1 p0.toNatClampNeg ∧ isM G u o ad dy n d rf 0 (va_up (va_up ar 1 (upd (ar 1) p0.toNatClampNeg p1)) 2 (upd (ar 2) p0.toNatClampNeg p2)))) ∧ (¬ fTr p0 p1 p2 = 0 → isM G u o ad dy n d rf (fTr p0 p1 p2) ar)) := by
  have wX5 : ∀ w ∈ wsX50, w ∈ wsX5_setTreaty := by decide +kernel
  refine hv_enter (y := yX5_setTreaty) (avs := [.ref o, .int p0, .int p1, .int p2]) (maxL := 5) (Qf := fun sz => va_Qi (fun r u => (fTr p0 p1 p2 = 0 → (r = ar 1 p0.toNatClampNeg ∧ isM G u o ad dy n d rf 0 (va_up (va_up ar 1 (upd (ar 1) p0.toNatClampNeg p1)) 2 (upd (ar 2) p0.toNatClampNeg p2)))) ∧ (¬ fTr p0 p1 p2 = 0 → isM G u o ad dy n d rf (fTr p0 p1 p2) ar)) (hv_Bq G h sz) (hv_A h sz)) (by decide) rfl rfl (Nat.le_of_ble_eq_true rfl) ?_
  intro p e s m below meth c hr hnm C I ls hl
  have hl : lv_has ls 5 [(0, .ref o), (1, .int p0), (2, .int p1), (3, .int p2)] := hl
  refine lv_aload_n C.1 C.2.1 dX5_setTreaty_0 rfl (lv_at hl 0 rfl) ?_
  refine lv_iload_n C.1 C.2.1 dX5_setTreaty_1 rfl (lv_at hl 1 rfl) ?_
  refine lv_iconst (v := 0) C.1 C.2.1 dX5_setTreaty_2 (by decide) ?_
  refine lv_iconst (v := 5) C.1 C.2.1 dX5_setTreaty_3 (by decide) ?_
  refine hv_ki I (va_runS (As := [.int p0, .int 0, .int 5]) (rest := [.ref o]) C.fix (c_X5_isIn l G h _ p0 0 5) (va_cwS 3 C.2.2.2.2.1 gX5_setTreaty_X5_isIn rfl rfl rfl (by decide +kernel) ⟨Nat.le_of_ble_eq_true rfl, Nat.le_of_ble_eq_true rfl⟩) (hv_preS C I) rfl rfl hl.1 rfl (lv_room (Nat.le_of_ble_eq_true rfl)) dX5_setTreaty_4 ⟨Nat.le_of_ble_eq_true rfl, Nat.le_of_ble_eq_true rfl⟩) (fun ru_1 u_1 H locs pu_1 I => ?_)
  obtain ⟨e1, e2⟩ := pu_1; have e1 := e1.symm; subst e1; have e2 := e2.symm; subst e2
  refine lv_if_eq (tgt := 34) C.1 C.2.1 dX5_setTreaty_7 (by decide) (fun c7 => ?_) (fun c7 => ?_)
  · refine lv_iconst (v := 1) C.1 C.2.1 dX5_setTreaty_34 (by decide) ?_
    refine hv_ki I (va_runV (As := [.int 1]) (rest := []) C.fix (c_X5_can l G h _ hM 1) (cwV 1 C.2.2.2.2.1 gX5_setTreaty_X5_can rfl rfl rfl (by decide +kernel) ⟨Nat.le_of_ble_eq_true rfl, Nat.le_of_ble_eq_true rfl⟩) (hv_preV C I hM.1 (r := (RX5, TX5, 21)) rfl) rfl rfl hl.1 rfl (lv_room (Nat.le_of_ble_eq_true rfl)) dX5_setTreaty_35 ⟨Nat.le_of_ble_eq_true rfl, Nat.le_of_ble_eq_true rfl⟩) (fun ru_2 u_2 H locs pu_2 I => ?_)
    obtain ⟨e1, hM⟩ := pu_2; have e1 := e1.symm; subst e1
    refine lv_if_ne (tgt := 43) C.1 C.2.1 dX5_setTreaty_38 (by decide) (fun c38 => ?_) (fun c38 => ?_)
    · exact absurd (by decide) c38
    · refine lv_iconst (v := 0) C.1 C.2.1 dX5_setTreaty_41 (by decide) ?_
      exact hv_iret (v := 0) C hr I ((fun eF => ⟨fun z => absurd (eF.symm.trans z) (by decide), fun _ => by rw [eF]; exact hM⟩) (show fTr p0 p1 p2 = 1 by unfold fTr; first | (simp [c7, c38]; done) | ((repeat' split) <;> first | rfl | contradiction))) dX5_setTreaty_42 (Nat.le_of_ble_eq_true rfl) (Nat.le_of_ble_eq_true rfl)
  · refine lv_iload_n C.1 C.2.1 dX5_setTreaty_10 rfl (lv_at hl 2 rfl) ?_
    refine lv_iconst (v := 0) C.1 C.2.1 dX5_setTreaty_11 (by decide) ?_
    refine lv_bipush (v := 30) C.1 C.2.1 dX5_setTreaty_12 (by decide) ?_
    refine hv_ki I (va_runS (As := [.int p1, .int 0, .int 30]) (rest := [.ref o]) C.fix (c_X5_isIn l G h _ p1 0 30) (va_cwS 3 C.2.2.2.2.1 gX5_setTreaty_X5_isIn rfl rfl rfl (by decide +kernel) ⟨Nat.le_of_ble_eq_true rfl, Nat.le_of_ble_eq_true rfl⟩) (hv_preS C I) rfl rfl hl.1 rfl (lv_room (Nat.le_of_ble_eq_true rfl)) dX5_setTreaty_14 ⟨Nat.le_of_ble_eq_true rfl, Nat.le_of_ble_eq_true rfl⟩) (fun ru_3 u_3 H locs pu_3 I => ?_)
    obtain ⟨e1, e2⟩ := pu_3; have e1 := e1.symm; subst e1; have e2 := e2.symm; subst e2
    refine lv_if_eq (tgt := 34) C.1 C.2.1 dX5_setTreaty_17 (by decide) (fun c17 => ?_) (fun c17 => ?_)
    · refine lv_iconst (v := 1) C.1 C.2.1 dX5_setTreaty_34 (by decide) ?_
      refine hv_ki I (va_runV (As := [.int 1]) (rest := []) C.fix (c_X5_can l G h _ hM 1) (cwV 1 C.2.2.2.2.1 gX5_setTreaty_X5_can rfl rfl rfl (by decide +kernel) ⟨Nat.le_of_ble_eq_true rfl, Nat.le_of_ble_eq_true rfl⟩) (hv_preV C I hM.1 (r := (RX5, TX5, 21)) rfl) rfl rfl hl.1 rfl (lv_room (Nat.le_of_ble_eq_true rfl)) dX5_setTreaty_35 ⟨Nat.le_of_ble_eq_true rfl, Nat.le_of_ble_eq_true rfl⟩) (fun ru_4 u_4 H locs pu_4 I => ?_)
      obtain ⟨e1, hM⟩ := pu_4; have e1 := e1.symm; subst e1
      refine lv_if_ne (tgt := 43) C.1 C.2.1 dX5_setTreaty_38 (by decide) (fun c38 => ?_) (fun c38 => ?_)
      · exact absurd (by decide) c38
      · refine lv_iconst (v := 0) C.1 C.2.1 dX5_setTreaty_41 (by decide) ?_
        exact hv_iret (v := 0) C hr I ((fun eF => ⟨fun z => absurd (eF.symm.trans z) (by decide), fun _ => by rw [eF]; exact hM⟩) (show fTr p0 p1 p2 = 1 by unfold fTr; first | (simp [c7, c17, c38]; done) | ((repeat' split) <;> first | rfl | contradiction))) dX5_setTreaty_42 (Nat.le_of_ble_eq_true rfl) (Nat.le_of_ble_eq_true rfl)
    · refine lv_iload_n C.1 C.2.1 dX5_setTreaty_20 rfl (lv_at hl 3 rfl) ?_
      refine lv_iconst (v := 0) C.1 C.2.1 dX5_setTreaty_21 (by decide) ?_
      refine lv_bipush (v := 30) C.1 C.2.1 dX5_setTreaty_22 (by decide) ?_
      refine hv_ki I (va_runS (As := [.int p2, .int 0, .int 30]) (rest := [.ref o]) C.fix (c_X5_isIn l G h _ p2 0 30) (va_cwS 3 C.2.2.2.2.1 gX5_setTreaty_X5_isIn rfl rfl rfl (by decide +kernel) ⟨Nat.le_of_ble_eq_true rfl, Nat.le_of_ble_eq_true rfl⟩) (hv_preS C I) rfl rfl hl.1 rfl (lv_room (Nat.le_of_ble_eq_true rfl)) dX5_setTreaty_24 ⟨Nat.le_of_ble_eq_true rfl, Nat.le_of_ble_eq_true rfl⟩) (fun ru_5 u_5 H locs pu_5 I => ?_)
      obtain ⟨e1, e2⟩ := pu_5; have e1 := e1.symm; subst e1; have e2 := e2.symm; subst e2
      refine lv_if_eq (tgt := 34) C.1 C.2.1 dX5_setTreaty_27 (by decide) (fun c27 => ?_) (fun c27 => ?_)
      · refine lv_iconst (v := 1) C.1 C.2.1 dX5_setTreaty_34 (by decide) ?_
        refine hv_ki I (va_runV (As := [.int 1]) (rest := []) C.fix (c_X5_can l G h _ hM 1) (cwV 1 C.2.2.2.2.1 gX5_setTreaty_X5_can rfl rfl rfl (by decide +kernel) ⟨Nat.le_of_ble_eq_true rfl, Nat.le_of_ble_eq_true rfl⟩) (hv_preV C I hM.1 (r := (RX5, TX5, 21)) rfl) rfl rfl hl.1 rfl (lv_room (Nat.le_of_ble_eq_true rfl)) dX5_setTreaty_35 ⟨Nat.le_of_ble_eq_true rfl, Nat.le_of_ble_eq_true rfl⟩) (fun ru_6 u_6 H locs pu_6 I => ?_)
        obtain ⟨e1, hM⟩ := pu_6; have e1 := e1.symm; subst e1
        refine lv_if_ne (tgt := 43) C.1 C.2.1 dX5_setTreaty_38 (by decide) (fun c38 => ?_) (fun c38 => ?_)
        · exact absurd (by decide) c38
        · refine lv_iconst (v := 0) C.1 C.2.1 dX5_setTreaty_41 (by decide) ?_
          exact hv_iret (v := 0) C hr I ((fun eF => ⟨fun z => absurd (eF.symm.trans z) (by decide), fun _ => by rw [eF]; exact hM⟩) (show fTr p0 p1 p2 = 1 by unfold fTr; first | (simp [c7, c17, c27, c38]; done) | ((repeat' split) <;> first | rfl | contradiction))) dX5_setTreaty_42 (Nat.le_of_ble_eq_true rfl) (Nat.le_of_ble_eq_true rfl)
      · refine lv_iconst (v := 0) C.1 C.2.1 dX5_setTreaty_30 (by decide) ?_
        refine lv_goto (tgt := 35) C.1 C.2.1 dX5_setTreaty_31 (by decide) ?_
        refine hv_ki I (va_runV (As := [.int 0]) (rest := []) C.fix (c_X5_can l G h _ hM 0) (cwV 1 C.2.2.2.2.1 gX5_setTreaty_X5_can rfl rfl rfl (by decide +kernel) ⟨Nat.le_of_ble_eq_true rfl, Nat.le_of_ble_eq_true rfl⟩) (hv_preV C I hM.1 (r := (RX5, TX5, 21)) rfl) rfl rfl hl.1 rfl (lv_room (Nat.le_of_ble_eq_true rfl)) dX5_setTreaty_35 ⟨Nat.le_of_ble_eq_true rfl, Nat.le_of_ble_eq_true rfl⟩) (fun ru_7 u_7 H locs pu_7 I => ?_)
        obtain ⟨e1, hM⟩ := pu_7; have e1 := e1.symm; subst e1
        refine lv_if_ne (tgt := 43) C.1 C.2.1 dX5_setTreaty_38 (by decide) (fun c38 => ?_) (fun c38 => ?_)
        · refine lv_aload_n C.1 C.2.1 dX5_setTreaty_43 rfl (lv_at hl 0 rfl) ?_
          refine hv_get (ci := 6) (Cn := RX5) (T := TX5) (N := 21) (ref := "DividendDeskModel") (v := .ref (ad 1)) C I hM.1 wX5 rfl 1 (by decide) (by decide +kernel) (fun _ h9 => h9) rfl dX5_setTreaty_44 ?_
          refine lv_iload_n C.1 C.2.1 dX5_setTreaty_47 rfl (lv_at hl 1 rfl) ?_
          refine hv_iald (n := 6) (f := ar 1) C I (isM_a hM 1 rfl) (iw_vp (k := 5) (by decide) c7) dX5_setTreaty_48 ?_
          refine lv_istore (lv' := [(4, .int ((ar 1) p0.toNatClampNeg)), (0, .ref o), (1, .int p0), (2, .int p1), (3, .int p2)]) C.1 C.2.1 dX5_setTreaty_49 hl (by decide) rfl (fun ls hl => ?_)
          refine lv_aload_n C.1 C.2.1 dX5_setTreaty_51 rfl (lv_at hl 1 rfl) ?_
          refine hv_get (ci := 6) (Cn := RX5) (T := TX5) (N := 21) (ref := "DividendDeskModel") (v := .ref (ad 1)) C I hM.1 wX5 rfl 1 (by decide) (by decide +kernel) (fun _ h9 => h9) rfl dX5_setTreaty_52 ?_
          refine lv_iload_n C.1 C.2.1 dX5_setTreaty_55 rfl (lv_at hl 2 rfl) ?_
          refine lv_iload_n C.1 C.2.1 dX5_setTreaty_56 rfl (lv_at hl 3 rfl) ?_
          refine hv_iast (n := 6) (f := ar 1) C I (isM_a hM 1 rfl) (iw_vp (k := 5) (by decide) c7) dX5_setTreaty_57 (fun H locs I => ?_)
          obtain ⟨h_8, eh_8⟩ : ∃ z, z = hv_up u_7 (ad 1) (.inl (G.2.1 0, 6, .inl (upd (ar 1) p0.toNatClampNeg p1))) := ⟨_, rfl⟩
          have I : hv_I G h s h_8 H locs := by rw [eh_8]; exact I
          have hM : isM G h_8 o ad dy n d rf 0 (va_up ar 1 (upd (ar 1) p0.toNatClampNeg p1)) := isM_st hM 1 rfl eh_8
          refine lv_aload_n C.1 C.2.1 dX5_setTreaty_58 rfl (lv_at hl 1 rfl) ?_
          refine hv_get (ci := 6) (Cn := RX5) (T := TX5) (N := 21) (ref := "DividendDeskModel") (v := .ref (ad 2)) C I hM.1 wX5 rfl 2 (by decide) (by decide +kernel) (fun _ h9 => h9) rfl dX5_setTreaty_59 ?_
          refine lv_iload_n C.1 C.2.1 dX5_setTreaty_62 rfl (lv_at hl 2 rfl) ?_
          refine lv_iload_n C.1 C.2.1 dX5_setTreaty_63 rfl (lv_at hl 4 rfl) ?_
          refine hv_iast (n := 6) (f := ar 2) C I (isM_a hM 2 rfl) (iw_vp (k := 5) (by decide) c7) dX5_setTreaty_64 (fun H locs I => ?_)
          obtain ⟨h_9, eh_9⟩ : ∃ z, z = hv_up h_8 (ad 2) (.inl (G.2.1 0, 6, .inl (upd (ar 2) p0.toNatClampNeg p2))) := ⟨_, rfl⟩
          have I : hv_I G h s h_9 H locs := by rw [eh_9]; exact I
          have hM : isM G h_9 o ad dy n d rf 0 (va_up (va_up ar 1 (upd (ar 1) p0.toNatClampNeg p1)) 2 (upd (ar 2) p0.toNatClampNeg p2)) := isM_st hM 2 rfl eh_9
          refine lv_iload C.1 C.2.1 dX5_setTreaty_65 (lv_at hl 0 rfl) ?_
          exact hv_iret (v := ((ar 1) p0.toNatClampNeg)) C hr I (⟨fun _ => ⟨rfl, hM⟩, fun z => absurd (show fTr p0 p1 p2 = 0 by unfold fTr; first | (simp [c7, c17, c27, c38]; done) | ((repeat' split) <;> first | rfl | contradiction)) z⟩) dX5_setTreaty_67 (Nat.le_of_ble_eq_true rfl) (Nat.le_of_ble_eq_true rfl)
        · exact absurd c38 (by decide)

set_option maxHeartbeats 4000000 in
set_option maxRecDepth 100000 in
theorem c_X5_addHolder (l : Launch) (G : hv_G) (h : hv) (sz : Nat) {o : Nat} {ad : Nat → Nat} {dy : Int32} {n d : Nat} {rf : Int64} {th : Int32} {ar : Nat → Nat → Int32} (hM : isM G h o ad dy n d rf th ar) (p0 p1 : Int32) (hn : n ≤ 20) : hv_Mi l yX5_addHolder wsX5_addHolder 2 60 0 0 G h sz [.ref o, .int p0, .int p1] (fun r u => (fAh p0 p1 n = 0 → (r = nI n ∧ isM G u o ad dy (n + 1) d rf 0 (va_up (va_up ar 4 (upd (ar 4) n p0)) 5 (upd (ar 5) n p1)))) ∧ (¬ fAh p0 p1 n = 0 → isM G u o ad dy n d rf (fAh p0 p1 n) ar)) := by
  have wX5 : ∀ w ∈ wsX50, w ∈ wsX5_addHolder := by decide +kernel
  refine hv_enter (y := yX5_addHolder) (avs := [.ref o, .int p0, .int p1]) (maxL := 4) (Qf := fun sz => va_Qi (fun r u => (fAh p0 p1 n = 0 → (r = nI n ∧ isM G u o ad dy (n + 1) d rf 0 (va_up (va_up ar 4 (upd (ar 4) n p0)) 5 (upd (ar 5) n p1)))) ∧ (¬ fAh p0 p1 n = 0 → isM G u o ad dy n d rf (fAh p0 p1 n) ar)) (hv_Bq G h sz) (hv_A h sz)) (by decide) rfl rfl (Nat.le_of_ble_eq_true rfl) ?_
  intro p e s m below meth c hr hnm C I ls hl
  have hl : lv_has ls 4 [(0, .ref o), (1, .int p0), (2, .int p1)] := hl
  refine lv_iload_n C.1 C.2.1 dX5_addHolder_0 rfl (lv_at hl 1 rfl) ?_
  refine lv_iconst (v := 0) C.1 C.2.1 dX5_addHolder_1 (by decide) ?_
  refine lv_iconst (v := 2) C.1 C.2.1 dX5_addHolder_2 (by decide) ?_
  refine hv_ki I (va_runS (As := [.int p0, .int 0, .int 2]) (rest := []) C.fix (c_X5_isIn l G h _ p0 0 2) (va_cwS 3 C.2.2.2.2.1 gX5_addHolder_X5_isIn rfl rfl rfl (by decide +kernel) ⟨Nat.le_of_ble_eq_true rfl, Nat.le_of_ble_eq_true rfl⟩) (hv_preS C I) rfl rfl hl.1 rfl (lv_room (Nat.le_of_ble_eq_true rfl)) dX5_addHolder_3 ⟨Nat.le_of_ble_eq_true rfl, Nat.le_of_ble_eq_true rfl⟩) (fun ru_1 u_1 H locs pu_1 I => ?_)
  obtain ⟨e1, e2⟩ := pu_1; have e1 := e1.symm; subst e1; have e2 := e2.symm; subst e2
  refine lv_if_eq (tgt := 35) C.1 C.2.1 dX5_addHolder_6 (by decide) (fun c6 => ?_) (fun c6 => ?_)
  · refine lv_iconst (v := 0) C.1 C.2.1 dX5_addHolder_35 (by decide) ?_
    refine lv_istore_n (lv' := [(3, .int 0), (0, .ref o), (1, .int p0), (2, .int p1)]) C.1 C.2.1 dX5_addHolder_36 rfl hl (by decide) rfl (fun ls hl => ?_)
    refine lv_aload_n C.1 C.2.1 dX5_addHolder_37 rfl (lv_at hl 1 rfl) ?_
    refine lv_iload_n C.1 C.2.1 dX5_addHolder_38 rfl (lv_at hl 0 rfl) ?_
    refine lv_if_ne (tgt := 46) C.1 C.2.1 dX5_addHolder_39 (by decide) (fun c39 => ?_) (fun c39 => ?_)
    · exact absurd (by decide) c39
    · refine lv_iconst (v := 1) C.1 C.2.1 dX5_addHolder_42 (by decide) ?_
      refine lv_goto (tgt := 60) C.1 C.2.1 dX5_addHolder_43 (by decide) ?_
      refine hv_ki I (va_runV (As := [.int 1]) (rest := []) C.fix (c_X5_can l G h _ hM 1) (cwV 1 C.2.2.2.2.1 gX5_addHolder_X5_can rfl rfl rfl (by decide +kernel) ⟨Nat.le_of_ble_eq_true rfl, Nat.le_of_ble_eq_true rfl⟩) (hv_preV C I hM.1 (r := (RX5, TX5, 21)) rfl) rfl rfl hl.1 rfl (lv_room (Nat.le_of_ble_eq_true rfl)) dX5_addHolder_60 ⟨Nat.le_of_ble_eq_true rfl, Nat.le_of_ble_eq_true rfl⟩) (fun ru_2 u_2 H locs pu_2 I => ?_)
      obtain ⟨e1, hM⟩ := pu_2; have e1 := e1.symm; subst e1
      refine lv_if_ne (tgt := 68) C.1 C.2.1 dX5_addHolder_63 (by decide) (fun c63 => ?_) (fun c63 => ?_)
      · exact absurd (by decide) c63
      · refine lv_iconst (v := 0) C.1 C.2.1 dX5_addHolder_66 (by decide) ?_
        exact hv_iret (v := 0) C hr I ((fun eF => ⟨fun z => absurd (eF.symm.trans z) (by decide), fun _ => by rw [eF]; exact hM⟩) (show fAh p0 p1 n = 1 by unfold fAh; first | (simp [c6, c39, c63]; done) | ((repeat' split) <;> first | rfl | contradiction))) dX5_addHolder_67 (Nat.le_of_ble_eq_true rfl) (Nat.le_of_ble_eq_true rfl)
  · refine lv_iload_n C.1 C.2.1 dX5_addHolder_9 rfl (lv_at hl 1 rfl) ?_
    refine lv_iconst (v := 2) C.1 C.2.1 dX5_addHolder_10 (by decide) ?_
    refine lv_icmp_ne (tgt := 22) C.1 C.2.1 dX5_addHolder_11 (by decide) (fun c11 => ?_) (fun c11 => ?_)
    · refine lv_iload_n C.1 C.2.1 dX5_addHolder_22 rfl (lv_at hl 2 rfl) ?_
      refine lv_iconst (v := 0) C.1 C.2.1 dX5_addHolder_23 (by decide) ?_
      refine lv_iconst (v := 5) C.1 C.2.1 dX5_addHolder_24 (by decide) ?_
      refine hv_ki I (va_runS (As := [.int p1, .int 0, .int 5]) (rest := []) C.fix (c_X5_isIn l G h _ p1 0 5) (va_cwS 3 C.2.2.2.2.1 gX5_addHolder_X5_isIn rfl rfl rfl (by decide +kernel) ⟨Nat.le_of_ble_eq_true rfl, Nat.le_of_ble_eq_true rfl⟩) (hv_preS C I) rfl rfl hl.1 rfl (lv_room (Nat.le_of_ble_eq_true rfl)) dX5_addHolder_25 ⟨Nat.le_of_ble_eq_true rfl, Nat.le_of_ble_eq_true rfl⟩) (fun ru_3 u_3 H locs pu_3 I => ?_)
      obtain ⟨e1, e2⟩ := pu_3; have e1 := e1.symm; subst e1; have e2 := e2.symm; subst e2
      refine lv_if_eq (tgt := 35) C.1 C.2.1 dX5_addHolder_28 (by decide) (fun c28 => ?_) (fun c28 => ?_)
      · refine lv_iconst (v := 0) C.1 C.2.1 dX5_addHolder_35 (by decide) ?_
        refine lv_istore_n (lv' := [(3, .int 0), (0, .ref o), (1, .int p0), (2, .int p1)]) C.1 C.2.1 dX5_addHolder_36 rfl hl (by decide) rfl (fun ls hl => ?_)
        refine lv_aload_n C.1 C.2.1 dX5_addHolder_37 rfl (lv_at hl 1 rfl) ?_
        refine lv_iload_n C.1 C.2.1 dX5_addHolder_38 rfl (lv_at hl 0 rfl) ?_
        refine lv_if_ne (tgt := 46) C.1 C.2.1 dX5_addHolder_39 (by decide) (fun c39 => ?_) (fun c39 => ?_)
        · exact absurd (by decide) c39
        · refine lv_iconst (v := 1) C.1 C.2.1 dX5_addHolder_42 (by decide) ?_
          refine lv_goto (tgt := 60) C.1 C.2.1 dX5_addHolder_43 (by decide) ?_
          refine hv_ki I (va_runV (As := [.int 1]) (rest := []) C.fix (c_X5_can l G h _ hM 1) (cwV 1 C.2.2.2.2.1 gX5_addHolder_X5_can rfl rfl rfl (by decide +kernel) ⟨Nat.le_of_ble_eq_true rfl, Nat.le_of_ble_eq_true rfl⟩) (hv_preV C I hM.1 (r := (RX5, TX5, 21)) rfl) rfl rfl hl.1 rfl (lv_room (Nat.le_of_ble_eq_true rfl)) dX5_addHolder_60 ⟨Nat.le_of_ble_eq_true rfl, Nat.le_of_ble_eq_true rfl⟩) (fun ru_4 u_4 H locs pu_4 I => ?_)
          obtain ⟨e1, hM⟩ := pu_4; have e1 := e1.symm; subst e1
          refine lv_if_ne (tgt := 68) C.1 C.2.1 dX5_addHolder_63 (by decide) (fun c63 => ?_) (fun c63 => ?_)
          · exact absurd (by decide) c63
          · refine lv_iconst (v := 0) C.1 C.2.1 dX5_addHolder_66 (by decide) ?_
            exact hv_iret (v := 0) C hr I ((fun eF => ⟨fun z => absurd (eF.symm.trans z) (by decide), fun _ => by rw [eF]; exact hM⟩) (show fAh p0 p1 n = 1 by unfold fAh; first | (simp [c6, c11, c28, c39, c63]; done) | ((repeat' split) <;> first | rfl | contradiction))) dX5_addHolder_67 (Nat.le_of_ble_eq_true rfl) (Nat.le_of_ble_eq_true rfl)
      · refine lv_iconst (v := 1) C.1 C.2.1 dX5_addHolder_31 (by decide) ?_
        refine lv_goto (tgt := 36) C.1 C.2.1 dX5_addHolder_32 (by decide) ?_
        refine lv_istore_n (lv' := [(3, .int 1), (0, .ref o), (1, .int p0), (2, .int p1)]) C.1 C.2.1 dX5_addHolder_36 rfl hl (by decide) rfl (fun ls hl => ?_)
        refine lv_aload_n C.1 C.2.1 dX5_addHolder_37 rfl (lv_at hl 1 rfl) ?_
        refine lv_iload_n C.1 C.2.1 dX5_addHolder_38 rfl (lv_at hl 0 rfl) ?_
        refine lv_if_ne (tgt := 46) C.1 C.2.1 dX5_addHolder_39 (by decide) (fun c39 => ?_) (fun c39 => ?_)
        · refine lv_aload_n C.1 C.2.1 dX5_addHolder_46 rfl (lv_at hl 1 rfl) ?_
          refine hv_get (ci := 6) (Cn := RX5) (T := TX5) (N := 21) (ref := "DividendDeskModel") (v := .int (nI n)) C I hM.1 wX5 rfl 3 (by decide) (by decide +kernel) (fun _ h9 => h9) rfl dX5_addHolder_47 ?_
          refine lv_bipush (v := 20) C.1 C.2.1 dX5_addHolder_50 (by decide) ?_
          refine lv_icmp_ne (tgt := 59) C.1 C.2.1 dX5_addHolder_52 (by decide) (fun c52 => ?_) (fun c52 => ?_)
          · refine lv_iconst (v := 0) C.1 C.2.1 dX5_addHolder_59 (by decide) ?_
            refine hv_ki I (va_runV (As := [.int 0]) (rest := []) C.fix (c_X5_can l G h _ hM 0) (cwV 1 C.2.2.2.2.1 gX5_addHolder_X5_can rfl rfl rfl (by decide +kernel) ⟨Nat.le_of_ble_eq_true rfl, Nat.le_of_ble_eq_true rfl⟩) (hv_preV C I hM.1 (r := (RX5, TX5, 21)) rfl) rfl rfl hl.1 rfl (lv_room (Nat.le_of_ble_eq_true rfl)) dX5_addHolder_60 ⟨Nat.le_of_ble_eq_true rfl, Nat.le_of_ble_eq_true rfl⟩) (fun ru_5 u_5 H locs pu_5 I => ?_)
            obtain ⟨e1, hM⟩ := pu_5; have e1 := e1.symm; subst e1
            refine lv_if_ne (tgt := 68) C.1 C.2.1 dX5_addHolder_63 (by decide) (fun c63 => ?_) (fun c63 => ?_)
            · have hn20 : n < 20 := Nat.lt_of_le_of_ne hn (fun z => c52 (by rw [z]; rfl))
              refine lv_aload_n C.1 C.2.1 dX5_addHolder_68 rfl (lv_at hl 1 rfl) ?_
              refine hv_get (ci := 6) (Cn := RX5) (T := TX5) (N := 21) (ref := "DividendDeskModel") (v := .ref (ad 4)) C I hM.1 wX5 rfl 4 (by decide) (by decide +kernel) (fun _ h9 => h9) rfl dX5_addHolder_69 ?_
              refine lv_aload_n C.1 C.2.1 dX5_addHolder_72 rfl (lv_at hl 1 rfl) ?_
              refine hv_get (ci := 6) (Cn := RX5) (T := TX5) (N := 21) (ref := "DividendDeskModel") (v := .int (nI n)) C I hM.1 wX5 rfl 3 (by decide) (by decide +kernel) (fun _ h9 => h9) rfl dX5_addHolder_73 ?_
              refine lv_iload_n C.1 C.2.1 dX5_addHolder_76 rfl (lv_at hl 2 rfl) ?_
              refine hv_iastN (n := 20) (f := ar 4) C I (isM_a hM 4 rfl) hn20 (by decide) dX5_addHolder_77 (fun H locs I => ?_)
              obtain ⟨h_6, eh_6⟩ : ∃ z, z = hv_up u_5 (ad 4) (.inl (G.2.1 0, 20, .inl (upd (ar 4) n p0))) := ⟨_, rfl⟩
              have I : hv_I G h s h_6 H locs := by rw [eh_6]; exact I
              have hM : isM G h_6 o ad dy n d rf 0 (va_up ar 4 (upd (ar 4) n p0)) := isM_st hM 4 rfl eh_6
              refine lv_aload_n C.1 C.2.1 dX5_addHolder_78 rfl (lv_at hl 1 rfl) ?_
              refine hv_get (ci := 6) (Cn := RX5) (T := TX5) (N := 21) (ref := "DividendDeskModel") (v := .ref (ad 5)) C I hM.1 wX5 rfl 5 (by decide) (by decide +kernel) (fun _ h9 => h9) rfl dX5_addHolder_79 ?_
              refine lv_aload_n C.1 C.2.1 dX5_addHolder_82 rfl (lv_at hl 1 rfl) ?_
              refine hv_get (ci := 6) (Cn := RX5) (T := TX5) (N := 21) (ref := "DividendDeskModel") (v := .int (nI n)) C I hM.1 wX5 rfl 3 (by decide) (by decide +kernel) (fun _ h9 => h9) rfl dX5_addHolder_83 ?_
              refine lv_iload_n C.1 C.2.1 dX5_addHolder_86 rfl (lv_at hl 3 rfl) ?_
              refine hv_iastN (n := 20) (f := ar 5) C I (isM_a hM 5 rfl) hn20 (by decide) dX5_addHolder_87 (fun H locs I => ?_)
              obtain ⟨h_7, eh_7⟩ : ∃ z, z = hv_up h_6 (ad 5) (.inl (G.2.1 0, 20, .inl (upd (ar 5) n p1))) := ⟨_, rfl⟩
              have I : hv_I G h s h_7 H locs := by rw [eh_7]; exact I
              have hM : isM G h_7 o ad dy n d rf 0 (va_up (va_up ar 4 (upd (ar 4) n p0)) 5 (upd (ar 5) n p1)) := isM_st hM 5 rfl eh_7
              refine lv_aload_n C.1 C.2.1 dX5_addHolder_88 rfl (lv_at hl 1 rfl) ?_
              refine lv_dup C.1 C.2.1 dX5_addHolder_89 rfl ?_
              refine hv_get (ci := 6) (Cn := RX5) (T := TX5) (N := 21) (ref := "DividendDeskModel") (v := .int (nI n)) C I hM.1 wX5 rfl 3 (by decide) (by decide +kernel) (fun _ h9 => h9) rfl dX5_addHolder_90 ?_
              refine lv_iconst (v := 1) C.1 C.2.1 dX5_addHolder_93 (by decide) ?_
              refine lv_iadd C.1 C.2.1 dX5_addHolder_94 ?_
              refine lv_topi (fun z_8 ez_8 => ?_)
              have ez_8 : z_8 = nI (n + 1) := by rw [ez_8]; exact nI_1 n
              subst ez_8
              refine hv_put (ci := 6) (Cn := RX5) (T := TX5) (N := 21) (ref := "DividendDeskModel") (ty := .int) (v := .int (nI (n + 1))) C I hM.1 wX5 tyX5 tyX5_ok nmX5 rfl 3 (by decide) (by decide +kernel) (fun _ h9 => h9) rfl (by decide +kernel) rfl rfl (Nat.le_of_ble_eq_true rfl) dX5_addHolder_95 (fun H locs I => ?_)
              have I : hv_I G h s (hv_up h_7 o (.inr (6, [.int dy, .ref (ad 1), .ref (ad 2), .int (nI (n + 1)), .ref (ad 4), .ref (ad 5), .ref (ad 6), .ref (ad 7), .ref (ad 8), .ref (ad 9), .int (nI d), .ref (ad 11), .ref (ad 12), .ref (ad 13), .ref (ad 14), .ref (ad 15), .ref (ad 16), .ref (ad 17), .ref (ad 18), .long rf, .int 0]))) H locs := I
              obtain ⟨h_9, eh_9⟩ : ∃ z, z = hv_up h_7 o (.inr (6, [.int dy, .ref (ad 1), .ref (ad 2), .int (nI (n + 1)), .ref (ad 4), .ref (ad 5), .ref (ad 6), .ref (ad 7), .ref (ad 8), .ref (ad 9), .int (nI d), .ref (ad 11), .ref (ad 12), .ref (ad 13), .ref (ad 14), .ref (ad 15), .ref (ad 16), .ref (ad 17), .ref (ad 18), .long rf, .int 0])) := ⟨_, rfl⟩
              have I : hv_I G h s h_9 H locs := by rw [eh_9]; exact I
              have hM : isM G h_9 o ad dy (n + 1) d rf 0 (va_up (va_up ar 4 (upd (ar 4) n p0)) 5 (upd (ar 5) n p1)) := isM_o hM eh_9
              refine lv_aload_n C.1 C.2.1 dX5_addHolder_98 rfl (lv_at hl 1 rfl) ?_
              refine hv_get (ci := 6) (Cn := RX5) (T := TX5) (N := 21) (ref := "DividendDeskModel") (v := .int (nI (n + 1))) C I hM.1 wX5 rfl 3 (by decide) (by decide +kernel) (fun _ h9 => h9) rfl dX5_addHolder_99 ?_
              refine lv_iconst (v := 1) C.1 C.2.1 dX5_addHolder_102 (by decide) ?_
              refine lv_isub C.1 C.2.1 dX5_addHolder_103 ?_
              refine lv_topi (fun z_10 ez_10 => ?_)
              have ez_10 : z_10 = nI n := by rw [ez_10]; exact nI_pred n
              subst ez_10
              exact hv_iret (v := (nI n)) C hr I (⟨fun _ => ⟨rfl, hM⟩, fun z => absurd (show fAh p0 p1 n = 0 by unfold fAh; first | (simp [c6, c11, c28, c39, c52, c63]; done) | ((repeat' split) <;> first | rfl | contradiction)) z⟩) dX5_addHolder_104 (Nat.le_of_ble_eq_true rfl) (Nat.le_of_ble_eq_true rfl)
            · exact absurd c63 (by decide)
          · refine lv_iconst (v := 2) C.1 C.2.1 dX5_addHolder_55 (by decide) ?_
            refine lv_goto (tgt := 60) C.1 C.2.1 dX5_addHolder_56 (by decide) ?_
            refine hv_ki I (va_runV (As := [.int 2]) (rest := []) C.fix (c_X5_can l G h _ hM 2) (cwV 1 C.2.2.2.2.1 gX5_addHolder_X5_can rfl rfl rfl (by decide +kernel) ⟨Nat.le_of_ble_eq_true rfl, Nat.le_of_ble_eq_true rfl⟩) (hv_preV C I hM.1 (r := (RX5, TX5, 21)) rfl) rfl rfl hl.1 rfl (lv_room (Nat.le_of_ble_eq_true rfl)) dX5_addHolder_60 ⟨Nat.le_of_ble_eq_true rfl, Nat.le_of_ble_eq_true rfl⟩) (fun ru_11 u_11 H locs pu_11 I => ?_)
            obtain ⟨e1, hM⟩ := pu_11; have e1 := e1.symm; subst e1
            refine lv_if_ne (tgt := 68) C.1 C.2.1 dX5_addHolder_63 (by decide) (fun c63 => ?_) (fun c63 => ?_)
            · exact absurd (by decide) c63
            · refine lv_iconst (v := 0) C.1 C.2.1 dX5_addHolder_66 (by decide) ?_
              exact hv_iret (v := 0) C hr I ((fun eF => ⟨fun z => absurd (eF.symm.trans z) (by decide), fun _ => by rw [eF]; exact hM⟩) (show fAh p0 p1 n = 2 by unfold fAh; first | (simp [c6, c11, c28, c39, c52, c63]; done) | ((repeat' split) <;> first | rfl | contradiction))) dX5_addHolder_67 (Nat.le_of_ble_eq_true rfl) (Nat.le_of_ble_eq_true rfl)
        · exact absurd c39 (by decide)
    · refine lv_iload_n C.1 C.2.1 dX5_addHolder_14 rfl (lv_at hl 2 rfl) ?_
      refine lv_iconst (v := (-1)) C.1 C.2.1 dX5_addHolder_15 (by decide) ?_
      refine lv_icmp_ne (tgt := 35) C.1 C.2.1 dX5_addHolder_16 (by decide) (fun c16 => ?_) (fun c16 => ?_)
      · refine lv_iconst (v := 0) C.1 C.2.1 dX5_addHolder_35 (by decide) ?_
        refine lv_istore_n (lv' := [(3, .int 0), (0, .ref o), (1, .int p0), (2, .int p1)]) C.1 C.2.1 dX5_addHolder_36 rfl hl (by decide) rfl (fun ls hl => ?_)
        refine lv_aload_n C.1 C.2.1 dX5_addHolder_37 rfl (lv_at hl 1 rfl) ?_
        refine lv_iload_n C.1 C.2.1 dX5_addHolder_38 rfl (lv_at hl 0 rfl) ?_
        refine lv_if_ne (tgt := 46) C.1 C.2.1 dX5_addHolder_39 (by decide) (fun c39 => ?_) (fun c39 => ?_)
        · exact absurd (by decide) c39
        · refine lv_iconst (v := 1) C.1 C.2.1 dX5_addHolder_42 (by decide) ?_
          refine lv_goto (tgt := 60) C.1 C.2.1 dX5_addHolder_43 (by decide) ?_
          refine hv_ki I (va_runV (As := [.int 1]) (rest := []) C.fix (c_X5_can l G h _ hM 1) (cwV 1 C.2.2.2.2.1 gX5_addHolder_X5_can rfl rfl rfl (by decide +kernel) ⟨Nat.le_of_ble_eq_true rfl, Nat.le_of_ble_eq_true rfl⟩) (hv_preV C I hM.1 (r := (RX5, TX5, 21)) rfl) rfl rfl hl.1 rfl (lv_room (Nat.le_of_ble_eq_true rfl)) dX5_addHolder_60 ⟨Nat.le_of_ble_eq_true rfl, Nat.le_of_ble_eq_true rfl⟩) (fun ru_12 u_12 H locs pu_12 I => ?_)
          obtain ⟨e1, hM⟩ := pu_12; have e1 := e1.symm; subst e1
          refine lv_if_ne (tgt := 68) C.1 C.2.1 dX5_addHolder_63 (by decide) (fun c63 => ?_) (fun c63 => ?_)
          · exact absurd (by decide) c63
          · refine lv_iconst (v := 0) C.1 C.2.1 dX5_addHolder_66 (by decide) ?_
            exact hv_iret (v := 0) C hr I ((fun eF => ⟨fun z => absurd (eF.symm.trans z) (by decide), fun _ => by rw [eF]; exact hM⟩) (show fAh p0 p1 n = 1 by unfold fAh; first | (simp [c6, c11, c16, c39, c63]; done) | ((repeat' split) <;> first | rfl | contradiction))) dX5_addHolder_67 (Nat.le_of_ble_eq_true rfl) (Nat.le_of_ble_eq_true rfl)
      · refine lv_goto (tgt := 31) C.1 C.2.1 dX5_addHolder_19 (by decide) ?_
        refine lv_iconst (v := 1) C.1 C.2.1 dX5_addHolder_31 (by decide) ?_
        refine lv_goto (tgt := 36) C.1 C.2.1 dX5_addHolder_32 (by decide) ?_
        refine lv_istore_n (lv' := [(3, .int 1), (0, .ref o), (1, .int p0), (2, .int p1)]) C.1 C.2.1 dX5_addHolder_36 rfl hl (by decide) rfl (fun ls hl => ?_)
        refine lv_aload_n C.1 C.2.1 dX5_addHolder_37 rfl (lv_at hl 1 rfl) ?_
        refine lv_iload_n C.1 C.2.1 dX5_addHolder_38 rfl (lv_at hl 0 rfl) ?_
        refine lv_if_ne (tgt := 46) C.1 C.2.1 dX5_addHolder_39 (by decide) (fun c39 => ?_) (fun c39 => ?_)
        · refine lv_aload_n C.1 C.2.1 dX5_addHolder_46 rfl (lv_at hl 1 rfl) ?_
          refine hv_get (ci := 6) (Cn := RX5) (T := TX5) (N := 21) (ref := "DividendDeskModel") (v := .int (nI n)) C I hM.1 wX5 rfl 3 (by decide) (by decide +kernel) (fun _ h9 => h9) rfl dX5_addHolder_47 ?_
          refine lv_bipush (v := 20) C.1 C.2.1 dX5_addHolder_50 (by decide) ?_
          refine lv_icmp_ne (tgt := 59) C.1 C.2.1 dX5_addHolder_52 (by decide) (fun c52 => ?_) (fun c52 => ?_)
          · refine lv_iconst (v := 0) C.1 C.2.1 dX5_addHolder_59 (by decide) ?_
            refine hv_ki I (va_runV (As := [.int 0]) (rest := []) C.fix (c_X5_can l G h _ hM 0) (cwV 1 C.2.2.2.2.1 gX5_addHolder_X5_can rfl rfl rfl (by decide +kernel) ⟨Nat.le_of_ble_eq_true rfl, Nat.le_of_ble_eq_true rfl⟩) (hv_preV C I hM.1 (r := (RX5, TX5, 21)) rfl) rfl rfl hl.1 rfl (lv_room (Nat.le_of_ble_eq_true rfl)) dX5_addHolder_60 ⟨Nat.le_of_ble_eq_true rfl, Nat.le_of_ble_eq_true rfl⟩) (fun ru_13 u_13 H locs pu_13 I => ?_)
            obtain ⟨e1, hM⟩ := pu_13; have e1 := e1.symm; subst e1
            refine lv_if_ne (tgt := 68) C.1 C.2.1 dX5_addHolder_63 (by decide) (fun c63 => ?_) (fun c63 => ?_)
            · have hn20 : n < 20 := Nat.lt_of_le_of_ne hn (fun z => c52 (by rw [z]; rfl))
              refine lv_aload_n C.1 C.2.1 dX5_addHolder_68 rfl (lv_at hl 1 rfl) ?_
              refine hv_get (ci := 6) (Cn := RX5) (T := TX5) (N := 21) (ref := "DividendDeskModel") (v := .ref (ad 4)) C I hM.1 wX5 rfl 4 (by decide) (by decide +kernel) (fun _ h9 => h9) rfl dX5_addHolder_69 ?_
              refine lv_aload_n C.1 C.2.1 dX5_addHolder_72 rfl (lv_at hl 1 rfl) ?_
              refine hv_get (ci := 6) (Cn := RX5) (T := TX5) (N := 21) (ref := "DividendDeskModel") (v := .int (nI n)) C I hM.1 wX5 rfl 3 (by decide) (by decide +kernel) (fun _ h9 => h9) rfl dX5_addHolder_73 ?_
              refine lv_iload_n C.1 C.2.1 dX5_addHolder_76 rfl (lv_at hl 2 rfl) ?_
              refine hv_iastN (n := 20) (f := ar 4) C I (isM_a hM 4 rfl) hn20 (by decide) dX5_addHolder_77 (fun H locs I => ?_)
              obtain ⟨h_14, eh_14⟩ : ∃ z, z = hv_up u_13 (ad 4) (.inl (G.2.1 0, 20, .inl (upd (ar 4) n p0))) := ⟨_, rfl⟩
              have I : hv_I G h s h_14 H locs := by rw [eh_14]; exact I
              have hM : isM G h_14 o ad dy n d rf 0 (va_up ar 4 (upd (ar 4) n p0)) := isM_st hM 4 rfl eh_14
              refine lv_aload_n C.1 C.2.1 dX5_addHolder_78 rfl (lv_at hl 1 rfl) ?_
              refine hv_get (ci := 6) (Cn := RX5) (T := TX5) (N := 21) (ref := "DividendDeskModel") (v := .ref (ad 5)) C I hM.1 wX5 rfl 5 (by decide) (by decide +kernel) (fun _ h9 => h9) rfl dX5_addHolder_79 ?_
              refine lv_aload_n C.1 C.2.1 dX5_addHolder_82 rfl (lv_at hl 1 rfl) ?_
              refine hv_get (ci := 6) (Cn := RX5) (T := TX5) (N := 21) (ref := "DividendDeskModel") (v := .int (nI n)) C I hM.1 wX5 rfl 3 (by decide) (by decide +kernel) (fun _ h9 => h9) rfl dX5_addHolder_83 ?_
              refine lv_iload_n C.1 C.2.1 dX5_addHolder_86 rfl (lv_at hl 3 rfl) ?_
              refine hv_iastN (n := 20) (f := ar 5) C I (isM_a hM 5 rfl) hn20 (by decide) dX5_addHolder_87 (fun H locs I => ?_)
              obtain ⟨h_15, eh_15⟩ : ∃ z, z = hv_up h_14 (ad 5) (.inl (G.2.1 0, 20, .inl (upd (ar 5) n p1))) := ⟨_, rfl⟩
              have I : hv_I G h s h_15 H locs := by rw [eh_15]; exact I
              have hM : isM G h_15 o ad dy n d rf 0 (va_up (va_up ar 4 (upd (ar 4) n p0)) 5 (upd (ar 5) n p1)) := isM_st hM 5 rfl eh_15
              refine lv_aload_n C.1 C.2.1 dX5_addHolder_88 rfl (lv_at hl 1 rfl) ?_
              refine lv_dup C.1 C.2.1 dX5_addHolder_89 rfl ?_
              refine hv_get (ci := 6) (Cn := RX5) (T := TX5) (N := 21) (ref := "DividendDeskModel") (v := .int (nI n)) C I hM.1 wX5 rfl 3 (by decide) (by decide +kernel) (fun _ h9 => h9) rfl dX5_addHolder_90 ?_
              refine lv_iconst (v := 1) C.1 C.2.1 dX5_addHolder_93 (by decide) ?_
              refine lv_iadd C.1 C.2.1 dX5_addHolder_94 ?_
              refine lv_topi (fun z_16 ez_16 => ?_)
              have ez_16 : z_16 = nI (n + 1) := by rw [ez_16]; exact nI_1 n
              subst ez_16
              refine hv_put (ci := 6) (Cn := RX5) (T := TX5) (N := 21) (ref := "DividendDeskModel") (ty := .int) (v := .int (nI (n + 1))) C I hM.1 wX5 tyX5 tyX5_ok nmX5 rfl 3 (by decide) (by decide +kernel) (fun _ h9 => h9) rfl (by decide +kernel) rfl rfl (Nat.le_of_ble_eq_true rfl) dX5_addHolder_95 (fun H locs I => ?_)
              have I : hv_I G h s (hv_up h_15 o (.inr (6, [.int dy, .ref (ad 1), .ref (ad 2), .int (nI (n + 1)), .ref (ad 4), .ref (ad 5), .ref (ad 6), .ref (ad 7), .ref (ad 8), .ref (ad 9), .int (nI d), .ref (ad 11), .ref (ad 12), .ref (ad 13), .ref (ad 14), .ref (ad 15), .ref (ad 16), .ref (ad 17), .ref (ad 18), .long rf, .int 0]))) H locs := I
              obtain ⟨h_17, eh_17⟩ : ∃ z, z = hv_up h_15 o (.inr (6, [.int dy, .ref (ad 1), .ref (ad 2), .int (nI (n + 1)), .ref (ad 4), .ref (ad 5), .ref (ad 6), .ref (ad 7), .ref (ad 8), .ref (ad 9), .int (nI d), .ref (ad 11), .ref (ad 12), .ref (ad 13), .ref (ad 14), .ref (ad 15), .ref (ad 16), .ref (ad 17), .ref (ad 18), .long rf, .int 0])) := ⟨_, rfl⟩
              have I : hv_I G h s h_17 H locs := by rw [eh_17]; exact I
              have hM : isM G h_17 o ad dy (n + 1) d rf 0 (va_up (va_up ar 4 (upd (ar 4) n p0)) 5 (upd (ar 5) n p1)) := isM_o hM eh_17
              refine lv_aload_n C.1 C.2.1 dX5_addHolder_98 rfl (lv_at hl 1 rfl) ?_
              refine hv_get (ci := 6) (Cn := RX5) (T := TX5) (N := 21) (ref := "DividendDeskModel") (v := .int (nI (n + 1))) C I hM.1 wX5 rfl 3 (by decide) (by decide +kernel) (fun _ h9 => h9) rfl dX5_addHolder_99 ?_
              refine lv_iconst (v := 1) C.1 C.2.1 dX5_addHolder_102 (by decide) ?_
              refine lv_isub C.1 C.2.1 dX5_addHolder_103 ?_
              refine lv_topi (fun z_18 ez_18 => ?_)
              have ez_18 : z_18 = nI n := by rw [ez_18]; exact nI_pred n
              subst ez_18
              exact hv_iret (v := (nI n)) C hr I (⟨fun _ => ⟨rfl, hM⟩, fun z => absurd (show fAh p0 p1 n = 0 by unfold fAh; first | (simp [c6, c11, c16, c39, c52, c63]; done) | ((repeat' split) <;> first | rfl | contradiction)) z⟩) dX5_addHolder_104 (Nat.le_of_ble_eq_true rfl) (Nat.le_of_ble_eq_true rfl)
            · exact absurd c63 (by decide)
          · refine lv_iconst (v := 2) C.1 C.2.1 dX5_addHolder_55 (by decide) ?_
            refine lv_goto (tgt := 60) C.1 C.2.1 dX5_addHolder_56 (by decide) ?_
            refine hv_ki I (va_runV (As := [.int 2]) (rest := []) C.fix (c_X5_can l G h _ hM 2) (cwV 1 C.2.2.2.2.1 gX5_addHolder_X5_can rfl rfl rfl (by decide +kernel) ⟨Nat.le_of_ble_eq_true rfl, Nat.le_of_ble_eq_true rfl⟩) (hv_preV C I hM.1 (r := (RX5, TX5, 21)) rfl) rfl rfl hl.1 rfl (lv_room (Nat.le_of_ble_eq_true rfl)) dX5_addHolder_60 ⟨Nat.le_of_ble_eq_true rfl, Nat.le_of_ble_eq_true rfl⟩) (fun ru_19 u_19 H locs pu_19 I => ?_)
            obtain ⟨e1, hM⟩ := pu_19; have e1 := e1.symm; subst e1
            refine lv_if_ne (tgt := 68) C.1 C.2.1 dX5_addHolder_63 (by decide) (fun c63 => ?_) (fun c63 => ?_)
            · exact absurd (by decide) c63
            · refine lv_iconst (v := 0) C.1 C.2.1 dX5_addHolder_66 (by decide) ?_
              exact hv_iret (v := 0) C hr I ((fun eF => ⟨fun z => absurd (eF.symm.trans z) (by decide), fun _ => by rw [eF]; exact hM⟩) (show fAh p0 p1 n = 2 by unfold fAh; first | (simp [c6, c11, c16, c39, c52, c63]; done) | ((repeat' split) <;> first | rfl | contradiction))) dX5_addHolder_67 (Nat.le_of_ble_eq_true rfl) (Nat.le_of_ble_eq_true rfl)
        · exact absurd c39 (by decide)

set_option maxHeartbeats 4000000 in
set_option maxRecDepth 100000 in
theorem c_X5_setParts (l : Launch) (G : hv_G) (h : hv) (sz : Nat) {o : Nat} {ad : Nat → Nat} {dy : Int32} {n d : Nat} {rf : Int64} {th : Int32} {ar : Nat → Nat → Int32} (hM : isM G h o ad dy n d rf th ar) (p0 p1 p2 : Int32) (hn : n ≤ 20) : hv_Mi l yX5_setParts wsX5_setParts 2 60 0 0 G h sz [.ref o, .int p0, .int p1, .int p2] (fun r u => (fSp p0 p1 p2 n (ar 4) = 0 → (r = ar 9 (20 * p0.toNatClampNeg + p1.toNatClampNeg) ∧ isM G u o ad dy n d rf 0 (va_up ar 9 (upd (ar 9) (20 * p0.toNatClampNeg + p1.toNatClampNeg) p2)))) ∧ (¬ fSp p0 p1 p2 n (ar 4) = 0 → isM G u o ad dy n d rf (fSp p0 p1 p2 n (ar 4)) ar)) := by
  have wX5 : ∀ w ∈ wsX50, w ∈ wsX5_setParts := by decide +kernel
  refine hv_enter (y := yX5_setParts) (avs := [.ref o, .int p0, .int p1, .int p2]) (maxL := 7) (Qf := fun sz => va_Qi (fun r u => (fSp p0 p1 p2 n (ar 4) = 0 → (r = ar 9 (20 * p0.toNatClampNeg + p1.toNatClampNeg) ∧ isM G u o ad dy n d rf 0 (va_up ar 9 (upd (ar 9) (20 * p0.toNatClampNeg + p1.toNatClampNeg) p2)))) ∧ (¬ fSp p0 p1 p2 n (ar 4) = 0 → isM G u o ad dy n d rf (fSp p0 p1 p2 n (ar 4)) ar)) (hv_Bq G h sz) (hv_A h sz)) (by decide) rfl rfl (Nat.le_of_ble_eq_true rfl) ?_
  intro p e s m below meth c hr hnm C I ls hl
  have hl : lv_has ls 7 [(0, .ref o), (1, .int p0), (2, .int p1), (3, .int p2)] := hl
  refine lv_aload_n C.1 C.2.1 dX5_setParts_0 rfl (lv_at hl 0 rfl) ?_
  refine lv_iload_n C.1 C.2.1 dX5_setParts_1 rfl (lv_at hl 1 rfl) ?_
  refine hv_ki I (va_runV (As := [.int p0]) (rest := []) C.fix (c_X5_isHolder l G h _ hM p0) (cwV 1 C.2.2.2.2.1 gX5_setParts_X5_isHolder rfl rfl rfl (by decide +kernel) ⟨Nat.le_of_ble_eq_true rfl, Nat.le_of_ble_eq_true rfl⟩) (hv_preV C I hM.1 (r := (RX5, TX5, 21)) rfl) rfl rfl hl.1 rfl (lv_room (Nat.le_of_ble_eq_true rfl)) dX5_setParts_2 ⟨Nat.le_of_ble_eq_true rfl, Nat.le_of_ble_eq_true rfl⟩) (fun ru_1 u_1 H locs pu_1 I => ?_)
  obtain ⟨e1, e2⟩ := pu_1; have e1 := e1.symm; subst e1; have e2 := e2.symm; subst e2
  refine lv_if_eq (tgt := 20) C.1 C.2.1 dX5_setParts_5 (by decide) (fun c5 => ?_) (fun c5 => ?_)
  · refine lv_iconst (v := 0) C.1 C.2.1 dX5_setParts_20 (by decide) ?_
    refine lv_istore (lv' := [(4, .int 0), (0, .ref o), (1, .int p0), (2, .int p1), (3, .int p2)]) C.1 C.2.1 dX5_setParts_21 hl (by decide) rfl (fun ls hl => ?_)
    refine lv_iload C.1 C.2.1 dX5_setParts_23 (lv_at hl 0 rfl) ?_
    refine lv_if_eq (tgt := 62) C.1 C.2.1 dX5_setParts_25 (by decide) (fun c25 => ?_) (fun c25 => ?_)
    · refine lv_iconst (v := 0) C.1 C.2.1 dX5_setParts_62 (by decide) ?_
      refine lv_istore (lv' := [(5, .int 0), (4, .int 0), (0, .ref o), (1, .int p0), (2, .int p1), (3, .int p2)]) C.1 C.2.1 dX5_setParts_63 hl (by decide) rfl (fun ls hl => ?_)
      refine lv_aload_n C.1 C.2.1 dX5_setParts_65 rfl (lv_at hl 2 rfl) ?_
      refine lv_iload C.1 C.2.1 dX5_setParts_66 (lv_at hl 1 rfl) ?_
      refine lv_if_ne (tgt := 75) C.1 C.2.1 dX5_setParts_68 (by decide) (fun c68 => ?_) (fun c68 => ?_)
      · exact absurd (by decide) c68
      · refine lv_iconst (v := 1) C.1 C.2.1 dX5_setParts_71 (by decide) ?_
        refine lv_goto (tgt := 85) C.1 C.2.1 dX5_setParts_72 (by decide) ?_
        refine hv_ki I (va_runV (As := [.int 1]) (rest := []) C.fix (c_X5_can l G h _ hM 1) (cwV 1 C.2.2.2.2.1 gX5_setParts_X5_can rfl rfl rfl (by decide +kernel) ⟨Nat.le_of_ble_eq_true rfl, Nat.le_of_ble_eq_true rfl⟩) (hv_preV C I hM.1 (r := (RX5, TX5, 21)) rfl) rfl rfl hl.1 rfl (lv_room (Nat.le_of_ble_eq_true rfl)) dX5_setParts_85 ⟨Nat.le_of_ble_eq_true rfl, Nat.le_of_ble_eq_true rfl⟩) (fun ru_2 u_2 H locs pu_2 I => ?_)
        obtain ⟨e1, hM⟩ := pu_2; have e1 := e1.symm; subst e1
        refine lv_if_ne (tgt := 93) C.1 C.2.1 dX5_setParts_88 (by decide) (fun c88 => ?_) (fun c88 => ?_)
        · exact absurd (by decide) c88
        · refine lv_iconst (v := 0) C.1 C.2.1 dX5_setParts_91 (by decide) ?_
          exact hv_iret (v := 0) C hr I ((fun eF => ⟨fun z => absurd (eF.symm.trans z) (by decide), fun _ => by rw [eF]; exact hM⟩) (show fSp p0 p1 p2 n (ar 4) = 1 by unfold fSp; first | (simp [c5, c25, c68, c88]; done) | ((repeat' split) <;> first | rfl | contradiction))) dX5_setParts_92 (Nat.le_of_ble_eq_true rfl) (Nat.le_of_ble_eq_true rfl)
    · exact absurd (by decide) c25
  · refine lv_aload_n C.1 C.2.1 dX5_setParts_8 rfl (lv_at hl 0 rfl) ?_
    refine lv_iload_n C.1 C.2.1 dX5_setParts_9 rfl (lv_at hl 2 rfl) ?_
    refine hv_ki I (va_runV (As := [.int p1]) (rest := []) C.fix (c_X5_isHolder l G h _ hM p1) (cwV 1 C.2.2.2.2.1 gX5_setParts_X5_isHolder rfl rfl rfl (by decide +kernel) ⟨Nat.le_of_ble_eq_true rfl, Nat.le_of_ble_eq_true rfl⟩) (hv_preV C I hM.1 (r := (RX5, TX5, 21)) rfl) rfl rfl hl.1 rfl (lv_room (Nat.le_of_ble_eq_true rfl)) dX5_setParts_10 ⟨Nat.le_of_ble_eq_true rfl, Nat.le_of_ble_eq_true rfl⟩) (fun ru_3 u_3 H locs pu_3 I => ?_)
    obtain ⟨e1, e2⟩ := pu_3; have e1 := e1.symm; subst e1; have e2 := e2.symm; subst e2
    refine lv_if_eq (tgt := 20) C.1 C.2.1 dX5_setParts_13 (by decide) (fun c13 => ?_) (fun c13 => ?_)
    · refine lv_iconst (v := 0) C.1 C.2.1 dX5_setParts_20 (by decide) ?_
      refine lv_istore (lv' := [(4, .int 0), (0, .ref o), (1, .int p0), (2, .int p1), (3, .int p2)]) C.1 C.2.1 dX5_setParts_21 hl (by decide) rfl (fun ls hl => ?_)
      refine lv_iload C.1 C.2.1 dX5_setParts_23 (lv_at hl 0 rfl) ?_
      refine lv_if_eq (tgt := 62) C.1 C.2.1 dX5_setParts_25 (by decide) (fun c25 => ?_) (fun c25 => ?_)
      · refine lv_iconst (v := 0) C.1 C.2.1 dX5_setParts_62 (by decide) ?_
        refine lv_istore (lv' := [(5, .int 0), (4, .int 0), (0, .ref o), (1, .int p0), (2, .int p1), (3, .int p2)]) C.1 C.2.1 dX5_setParts_63 hl (by decide) rfl (fun ls hl => ?_)
        refine lv_aload_n C.1 C.2.1 dX5_setParts_65 rfl (lv_at hl 2 rfl) ?_
        refine lv_iload C.1 C.2.1 dX5_setParts_66 (lv_at hl 1 rfl) ?_
        refine lv_if_ne (tgt := 75) C.1 C.2.1 dX5_setParts_68 (by decide) (fun c68 => ?_) (fun c68 => ?_)
        · exact absurd (by decide) c68
        · refine lv_iconst (v := 1) C.1 C.2.1 dX5_setParts_71 (by decide) ?_
          refine lv_goto (tgt := 85) C.1 C.2.1 dX5_setParts_72 (by decide) ?_
          refine hv_ki I (va_runV (As := [.int 1]) (rest := []) C.fix (c_X5_can l G h _ hM 1) (cwV 1 C.2.2.2.2.1 gX5_setParts_X5_can rfl rfl rfl (by decide +kernel) ⟨Nat.le_of_ble_eq_true rfl, Nat.le_of_ble_eq_true rfl⟩) (hv_preV C I hM.1 (r := (RX5, TX5, 21)) rfl) rfl rfl hl.1 rfl (lv_room (Nat.le_of_ble_eq_true rfl)) dX5_setParts_85 ⟨Nat.le_of_ble_eq_true rfl, Nat.le_of_ble_eq_true rfl⟩) (fun ru_4 u_4 H locs pu_4 I => ?_)
          obtain ⟨e1, hM⟩ := pu_4; have e1 := e1.symm; subst e1
          refine lv_if_ne (tgt := 93) C.1 C.2.1 dX5_setParts_88 (by decide) (fun c88 => ?_) (fun c88 => ?_)
          · exact absurd (by decide) c88
          · refine lv_iconst (v := 0) C.1 C.2.1 dX5_setParts_91 (by decide) ?_
            exact hv_iret (v := 0) C hr I ((fun eF => ⟨fun z => absurd (eF.symm.trans z) (by decide), fun _ => by rw [eF]; exact hM⟩) (show fSp p0 p1 p2 n (ar 4) = 1 by unfold fSp; first | (simp [c5, c13, c25, c68, c88]; done) | ((repeat' split) <;> first | rfl | contradiction))) dX5_setParts_92 (Nat.le_of_ble_eq_true rfl) (Nat.le_of_ble_eq_true rfl)
      · exact absurd (by decide) c25
    · refine lv_iconst (v := 1) C.1 C.2.1 dX5_setParts_16 (by decide) ?_
      refine lv_goto (tgt := 21) C.1 C.2.1 dX5_setParts_17 (by decide) ?_
      refine lv_istore (lv' := [(4, .int 1), (0, .ref o), (1, .int p0), (2, .int p1), (3, .int p2)]) C.1 C.2.1 dX5_setParts_21 hl (by decide) rfl (fun ls hl => ?_)
      refine lv_iload C.1 C.2.1 dX5_setParts_23 (lv_at hl 0 rfl) ?_
      refine lv_if_eq (tgt := 62) C.1 C.2.1 dX5_setParts_25 (by decide) (fun c25 => ?_) (fun c25 => ?_)
      · exact absurd c25 (by decide)
      · refine lv_aload_n C.1 C.2.1 dX5_setParts_28 rfl (lv_at hl 1 rfl) ?_
        refine hv_get (ci := 6) (Cn := RX5) (T := TX5) (N := 21) (ref := "DividendDeskModel") (v := .ref (ad 4)) C I hM.1 wX5 rfl 4 (by decide) (by decide +kernel) (fun _ h9 => h9) rfl dX5_setParts_29 ?_
        refine lv_iload_n C.1 C.2.1 dX5_setParts_32 rfl (lv_at hl 2 rfl) ?_
        refine hv_iald (n := 20) (f := ar 4) C I (isM_a hM 4 rfl) (iwh_vp 20 hn (by decide) c5) dX5_setParts_33 ?_
        refine lv_iconst (v := 2) C.1 C.2.1 dX5_setParts_34 (by decide) ?_
        refine lv_icmp_ne (tgt := 62) C.1 C.2.1 dX5_setParts_35 (by decide) (fun c35 => ?_) (fun c35 => ?_)
        · refine lv_iconst (v := 0) C.1 C.2.1 dX5_setParts_62 (by decide) ?_
          refine lv_istore (lv' := [(5, .int 0), (4, .int 1), (0, .ref o), (1, .int p0), (2, .int p1), (3, .int p2)]) C.1 C.2.1 dX5_setParts_63 hl (by decide) rfl (fun ls hl => ?_)
          refine lv_aload_n C.1 C.2.1 dX5_setParts_65 rfl (lv_at hl 2 rfl) ?_
          refine lv_iload C.1 C.2.1 dX5_setParts_66 (lv_at hl 1 rfl) ?_
          refine lv_if_ne (tgt := 75) C.1 C.2.1 dX5_setParts_68 (by decide) (fun c68 => ?_) (fun c68 => ?_)
          · refine lv_iload C.1 C.2.1 dX5_setParts_75 (lv_at hl 0 rfl) ?_
            refine lv_if_eq (tgt := 84) C.1 C.2.1 dX5_setParts_77 (by decide) (fun c77 => ?_) (fun c77 => ?_)
            · refine lv_iconst (v := 2) C.1 C.2.1 dX5_setParts_84 (by decide) ?_
              refine hv_ki I (va_runV (As := [.int 2]) (rest := []) C.fix (c_X5_can l G h _ hM 2) (cwV 1 C.2.2.2.2.1 gX5_setParts_X5_can rfl rfl rfl (by decide +kernel) ⟨Nat.le_of_ble_eq_true rfl, Nat.le_of_ble_eq_true rfl⟩) (hv_preV C I hM.1 (r := (RX5, TX5, 21)) rfl) rfl rfl hl.1 rfl (lv_room (Nat.le_of_ble_eq_true rfl)) dX5_setParts_85 ⟨Nat.le_of_ble_eq_true rfl, Nat.le_of_ble_eq_true rfl⟩) (fun ru_5 u_5 H locs pu_5 I => ?_)
              obtain ⟨e1, hM⟩ := pu_5; have e1 := e1.symm; subst e1
              refine lv_if_ne (tgt := 93) C.1 C.2.1 dX5_setParts_88 (by decide) (fun c88 => ?_) (fun c88 => ?_)
              · exact absurd (by decide) c88
              · refine lv_iconst (v := 0) C.1 C.2.1 dX5_setParts_91 (by decide) ?_
                exact hv_iret (v := 0) C hr I ((fun eF => ⟨fun z => absurd (eF.symm.trans z) (by decide), fun _ => by rw [eF]; exact hM⟩) (show fSp p0 p1 p2 n (ar 4) = 2 by unfold fSp; first | (simp [c5, c13, c25, c35, c68, c77, c88]; done) | ((repeat' split) <;> first | rfl | contradiction))) dX5_setParts_92 (Nat.le_of_ble_eq_true rfl) (Nat.le_of_ble_eq_true rfl)
            · exact absurd (by decide) c77
          · exact absurd c68 (by decide)
        · refine lv_aload_n C.1 C.2.1 dX5_setParts_38 rfl (lv_at hl 1 rfl) ?_
          refine hv_get (ci := 6) (Cn := RX5) (T := TX5) (N := 21) (ref := "DividendDeskModel") (v := .ref (ad 4)) C I hM.1 wX5 rfl 4 (by decide) (by decide +kernel) (fun _ h9 => h9) rfl dX5_setParts_39 ?_
          refine lv_iload_n C.1 C.2.1 dX5_setParts_42 rfl (lv_at hl 3 rfl) ?_
          refine hv_iald (n := 20) (f := ar 4) C I (isM_a hM 4 rfl) (iwh_vp 20 hn (by decide) c13) dX5_setParts_43 ?_
          refine lv_iconst (v := 2) C.1 C.2.1 dX5_setParts_44 (by decide) ?_
          refine lv_icmp_eq (tgt := 62) C.1 C.2.1 dX5_setParts_45 (by decide) (fun c45 => ?_) (fun c45 => ?_)
          · refine lv_iconst (v := 0) C.1 C.2.1 dX5_setParts_62 (by decide) ?_
            refine lv_istore (lv' := [(5, .int 0), (4, .int 1), (0, .ref o), (1, .int p0), (2, .int p1), (3, .int p2)]) C.1 C.2.1 dX5_setParts_63 hl (by decide) rfl (fun ls hl => ?_)
            refine lv_aload_n C.1 C.2.1 dX5_setParts_65 rfl (lv_at hl 2 rfl) ?_
            refine lv_iload C.1 C.2.1 dX5_setParts_66 (lv_at hl 1 rfl) ?_
            refine lv_if_ne (tgt := 75) C.1 C.2.1 dX5_setParts_68 (by decide) (fun c68 => ?_) (fun c68 => ?_)
            · refine lv_iload C.1 C.2.1 dX5_setParts_75 (lv_at hl 0 rfl) ?_
              refine lv_if_eq (tgt := 84) C.1 C.2.1 dX5_setParts_77 (by decide) (fun c77 => ?_) (fun c77 => ?_)
              · refine lv_iconst (v := 2) C.1 C.2.1 dX5_setParts_84 (by decide) ?_
                refine hv_ki I (va_runV (As := [.int 2]) (rest := []) C.fix (c_X5_can l G h _ hM 2) (cwV 1 C.2.2.2.2.1 gX5_setParts_X5_can rfl rfl rfl (by decide +kernel) ⟨Nat.le_of_ble_eq_true rfl, Nat.le_of_ble_eq_true rfl⟩) (hv_preV C I hM.1 (r := (RX5, TX5, 21)) rfl) rfl rfl hl.1 rfl (lv_room (Nat.le_of_ble_eq_true rfl)) dX5_setParts_85 ⟨Nat.le_of_ble_eq_true rfl, Nat.le_of_ble_eq_true rfl⟩) (fun ru_6 u_6 H locs pu_6 I => ?_)
                obtain ⟨e1, hM⟩ := pu_6; have e1 := e1.symm; subst e1
                refine lv_if_ne (tgt := 93) C.1 C.2.1 dX5_setParts_88 (by decide) (fun c88 => ?_) (fun c88 => ?_)
                · exact absurd (by decide) c88
                · refine lv_iconst (v := 0) C.1 C.2.1 dX5_setParts_91 (by decide) ?_
                  exact hv_iret (v := 0) C hr I ((fun eF => ⟨fun z => absurd (eF.symm.trans z) (by decide), fun _ => by rw [eF]; exact hM⟩) (show fSp p0 p1 p2 n (ar 4) = 2 by unfold fSp; first | (simp [c5, c13, c25, c35, c45, c68, c77, c88]; done) | ((repeat' split) <;> first | rfl | contradiction))) dX5_setParts_92 (Nat.le_of_ble_eq_true rfl) (Nat.le_of_ble_eq_true rfl)
              · exact absurd (by decide) c77
            · exact absurd c68 (by decide)
          · refine lv_iload_n C.1 C.2.1 dX5_setParts_48 rfl (lv_at hl 4 rfl) ?_
            refine lv_iconst (v := 0) C.1 C.2.1 dX5_setParts_49 (by decide) ?_
            refine lv_bipush (v := 100) C.1 C.2.1 dX5_setParts_50 (by decide) ?_
            refine hv_ki I (va_runS (As := [.int p2, .int 0, .int 100]) (rest := []) C.fix (c_X5_isIn l G h _ p2 0 100) (va_cwS 3 C.2.2.2.2.1 gX5_setParts_X5_isIn rfl rfl rfl (by decide +kernel) ⟨Nat.le_of_ble_eq_true rfl, Nat.le_of_ble_eq_true rfl⟩) (hv_preS C I) rfl rfl hl.1 rfl (lv_room (Nat.le_of_ble_eq_true rfl)) dX5_setParts_52 ⟨Nat.le_of_ble_eq_true rfl, Nat.le_of_ble_eq_true rfl⟩) (fun ru_7 u_7 H locs pu_7 I => ?_)
            obtain ⟨e1, e2⟩ := pu_7; have e1 := e1.symm; subst e1; have e2 := e2.symm; subst e2
            refine lv_if_eq (tgt := 62) C.1 C.2.1 dX5_setParts_55 (by decide) (fun c55 => ?_) (fun c55 => ?_)
            · refine lv_iconst (v := 0) C.1 C.2.1 dX5_setParts_62 (by decide) ?_
              refine lv_istore (lv' := [(5, .int 0), (4, .int 1), (0, .ref o), (1, .int p0), (2, .int p1), (3, .int p2)]) C.1 C.2.1 dX5_setParts_63 hl (by decide) rfl (fun ls hl => ?_)
              refine lv_aload_n C.1 C.2.1 dX5_setParts_65 rfl (lv_at hl 2 rfl) ?_
              refine lv_iload C.1 C.2.1 dX5_setParts_66 (lv_at hl 1 rfl) ?_
              refine lv_if_ne (tgt := 75) C.1 C.2.1 dX5_setParts_68 (by decide) (fun c68 => ?_) (fun c68 => ?_)
              · refine lv_iload C.1 C.2.1 dX5_setParts_75 (lv_at hl 0 rfl) ?_
                refine lv_if_eq (tgt := 84) C.1 C.2.1 dX5_setParts_77 (by decide) (fun c77 => ?_) (fun c77 => ?_)
                · refine lv_iconst (v := 2) C.1 C.2.1 dX5_setParts_84 (by decide) ?_
                  refine hv_ki I (va_runV (As := [.int 2]) (rest := []) C.fix (c_X5_can l G h _ hM 2) (cwV 1 C.2.2.2.2.1 gX5_setParts_X5_can rfl rfl rfl (by decide +kernel) ⟨Nat.le_of_ble_eq_true rfl, Nat.le_of_ble_eq_true rfl⟩) (hv_preV C I hM.1 (r := (RX5, TX5, 21)) rfl) rfl rfl hl.1 rfl (lv_room (Nat.le_of_ble_eq_true rfl)) dX5_setParts_85 ⟨Nat.le_of_ble_eq_true rfl, Nat.le_of_ble_eq_true rfl⟩) (fun ru_8 u_8 H locs pu_8 I => ?_)
                  obtain ⟨e1, hM⟩ := pu_8; have e1 := e1.symm; subst e1
                  refine lv_if_ne (tgt := 93) C.1 C.2.1 dX5_setParts_88 (by decide) (fun c88 => ?_) (fun c88 => ?_)
                  · exact absurd (by decide) c88
                  · refine lv_iconst (v := 0) C.1 C.2.1 dX5_setParts_91 (by decide) ?_
                    exact hv_iret (v := 0) C hr I ((fun eF => ⟨fun z => absurd (eF.symm.trans z) (by decide), fun _ => by rw [eF]; exact hM⟩) (show fSp p0 p1 p2 n (ar 4) = 2 by unfold fSp; first | (simp [c5, c13, c25, c35, c45, c55, c68, c77, c88]; done) | ((repeat' split) <;> first | rfl | contradiction))) dX5_setParts_92 (Nat.le_of_ble_eq_true rfl) (Nat.le_of_ble_eq_true rfl)
                · exact absurd (by decide) c77
              · exact absurd c68 (by decide)
            · refine lv_iconst (v := 1) C.1 C.2.1 dX5_setParts_58 (by decide) ?_
              refine lv_goto (tgt := 63) C.1 C.2.1 dX5_setParts_59 (by decide) ?_
              refine lv_istore (lv' := [(5, .int 1), (4, .int 1), (0, .ref o), (1, .int p0), (2, .int p1), (3, .int p2)]) C.1 C.2.1 dX5_setParts_63 hl (by decide) rfl (fun ls hl => ?_)
              refine lv_aload_n C.1 C.2.1 dX5_setParts_65 rfl (lv_at hl 2 rfl) ?_
              refine lv_iload C.1 C.2.1 dX5_setParts_66 (lv_at hl 1 rfl) ?_
              refine lv_if_ne (tgt := 75) C.1 C.2.1 dX5_setParts_68 (by decide) (fun c68 => ?_) (fun c68 => ?_)
              · refine lv_iload C.1 C.2.1 dX5_setParts_75 (lv_at hl 0 rfl) ?_
                refine lv_if_eq (tgt := 84) C.1 C.2.1 dX5_setParts_77 (by decide) (fun c77 => ?_) (fun c77 => ?_)
                · exact absurd c77 (by decide)
                · refine lv_iconst (v := 0) C.1 C.2.1 dX5_setParts_80 (by decide) ?_
                  refine lv_goto (tgt := 85) C.1 C.2.1 dX5_setParts_81 (by decide) ?_
                  refine hv_ki I (va_runV (As := [.int 0]) (rest := []) C.fix (c_X5_can l G h _ hM 0) (cwV 1 C.2.2.2.2.1 gX5_setParts_X5_can rfl rfl rfl (by decide +kernel) ⟨Nat.le_of_ble_eq_true rfl, Nat.le_of_ble_eq_true rfl⟩) (hv_preV C I hM.1 (r := (RX5, TX5, 21)) rfl) rfl rfl hl.1 rfl (lv_room (Nat.le_of_ble_eq_true rfl)) dX5_setParts_85 ⟨Nat.le_of_ble_eq_true rfl, Nat.le_of_ble_eq_true rfl⟩) (fun ru_9 u_9 H locs pu_9 I => ?_)
                  obtain ⟨e1, hM⟩ := pu_9; have e1 := e1.symm; subst e1
                  refine lv_if_ne (tgt := 93) C.1 C.2.1 dX5_setParts_88 (by decide) (fun c88 => ?_) (fun c88 => ?_)
                  · obtain ⟨ex, hx⟩ := ix20 (A := 20) (iwh_vp 20 hn (by decide) c5) (by decide) (iwh_vp 20 hn (by decide) c13)
                    refine lv_aload_n C.1 C.2.1 dX5_setParts_93 rfl (lv_at hl 2 rfl) ?_
                    refine hv_get (ci := 6) (Cn := RX5) (T := TX5) (N := 21) (ref := "DividendDeskModel") (v := .ref (ad 9)) C I hM.1 wX5 rfl 9 (by decide) (by decide +kernel) (fun _ h9 => h9) rfl dX5_setParts_94 ?_
                    refine lv_bipush (v := 20) C.1 C.2.1 dX5_setParts_97 (by decide) ?_
                    refine lv_iload_n C.1 C.2.1 dX5_setParts_99 rfl (lv_at hl 3 rfl) ?_
                    refine lv_imul C.1 C.2.1 dX5_setParts_100 ?_
                    refine lv_iload_n C.1 C.2.1 dX5_setParts_101 rfl (lv_at hl 4 rfl) ?_
                    refine lv_iadd C.1 C.2.1 dX5_setParts_102 ?_
                    refine lv_topi (fun z_10 ez_10 => ?_)
                    have ez_10 : z_10 = nI (20 * p0.toNatClampNeg + p1.toNatClampNeg) := by rw [ez_10]; exact ex
                    subst ez_10
                    refine hv_ialdN (n := 400) (f := ar 9) C I (isM_a hM 9 rfl) hx (by decide) dX5_setParts_103 ?_
                    refine lv_istore (lv' := [(6, .int ((ar 9) (20 * p0.toNatClampNeg + p1.toNatClampNeg))), (5, .int 1), (4, .int 1), (0, .ref o), (1, .int p0), (2, .int p1), (3, .int p2)]) C.1 C.2.1 dX5_setParts_104 hl (by decide) rfl (fun ls hl => ?_)
                    refine lv_aload_n C.1 C.2.1 dX5_setParts_106 rfl (lv_at hl 3 rfl) ?_
                    refine hv_get (ci := 6) (Cn := RX5) (T := TX5) (N := 21) (ref := "DividendDeskModel") (v := .ref (ad 9)) C I hM.1 wX5 rfl 9 (by decide) (by decide +kernel) (fun _ h9 => h9) rfl dX5_setParts_107 ?_
                    refine lv_bipush (v := 20) C.1 C.2.1 dX5_setParts_110 (by decide) ?_
                    refine lv_iload_n C.1 C.2.1 dX5_setParts_112 rfl (lv_at hl 4 rfl) ?_
                    refine lv_imul C.1 C.2.1 dX5_setParts_113 ?_
                    refine lv_iload_n C.1 C.2.1 dX5_setParts_114 rfl (lv_at hl 5 rfl) ?_
                    refine lv_iadd C.1 C.2.1 dX5_setParts_115 ?_
                    refine lv_topi (fun z_11 ez_11 => ?_)
                    have ez_11 : z_11 = nI (20 * p0.toNatClampNeg + p1.toNatClampNeg) := by rw [ez_11]; exact ex
                    subst ez_11
                    refine lv_iload_n C.1 C.2.1 dX5_setParts_116 rfl (lv_at hl 6 rfl) ?_
                    refine hv_iastN (n := 400) (f := ar 9) C I (isM_a hM 9 rfl) hx (by decide) dX5_setParts_117 (fun H locs I => ?_)
                    obtain ⟨h_12, eh_12⟩ : ∃ z, z = hv_up u_9 (ad 9) (.inl (G.2.1 0, 400, .inl (upd (ar 9) (20 * p0.toNatClampNeg + p1.toNatClampNeg) p2))) := ⟨_, rfl⟩
                    have I : hv_I G h s h_12 H locs := by rw [eh_12]; exact I
                    have hM : isM G h_12 o ad dy n d rf 0 (va_up ar 9 (upd (ar 9) (20 * p0.toNatClampNeg + p1.toNatClampNeg) p2)) := isM_st hM 9 rfl eh_12
                    refine lv_iload C.1 C.2.1 dX5_setParts_118 (lv_at hl 0 rfl) ?_
                    exact hv_iret (v := ((ar 9) (20 * p0.toNatClampNeg + p1.toNatClampNeg))) C hr I (⟨fun _ => ⟨rfl, hM⟩, fun z => absurd (show fSp p0 p1 p2 n (ar 4) = 0 by unfold fSp; first | (simp [c5, c13, c25, c35, c45, c55, c68, c77, c88]; done) | ((repeat' split) <;> first | rfl | contradiction)) z⟩) dX5_setParts_120 (Nat.le_of_ble_eq_true rfl) (Nat.le_of_ble_eq_true rfl)
                  · exact absurd c88 (by decide)
              · exact absurd c68 (by decide)

set_option maxHeartbeats 4000000 in
set_option maxRecDepth 100000 in
theorem c_X5_allShares (l : Launch) (G : hv_G) (h : hv) (sz : Nat) {o : Nat} {ad : Nat → Nat} {dy : Int32} {n d : Nat} {rf : Int64} {th : Int32} {ar : Nat → Nat → Int32} (hM : isM G h o ad dy n d rf th ar) (hn : n ≤ 20) : hv_Mi l yX5_allShares wsX5_allShares 0 0 0 0 G h sz [.ref o] (fun r u => u = h ∧ r = l_sum (ar 6) n) := by
  have wX5 : ∀ w ∈ wsX50, w ∈ wsX5_allShares := by decide +kernel
  refine hv_enter (y := yX5_allShares) (avs := [.ref o]) (maxL := 3) (Qf := fun sz => va_Qi (fun r u => u = h ∧ r = l_sum (ar 6) n) (hv_Bq G h sz) (hv_A h sz)) (by decide) rfl rfl (Nat.le_of_ble_eq_true rfl) ?_
  intro p e s m below meth c hr hnm C I ls hl
  have hl : lv_has ls 3 [(0, .ref o)] := hl
  refine lv_iconst (v := 0) C.1 C.2.1 dX5_allShares_0 (by decide) ?_
  refine lv_istore_n (lv' := [(1, .int 0), (0, .ref o)]) C.1 C.2.1 dX5_allShares_1 rfl hl (by decide) rfl (fun ls hl => ?_)
  refine lv_iconst (v := 0) C.1 C.2.1 dX5_allShares_2 (by decide) ?_
  refine lv_istore_n (lv' := [(2, .int 0), (1, .int 0), (0, .ref o)]) C.1 C.2.1 dX5_allShares_3 rfl hl (by decide) rfl (fun ls hl => ?_)
  have loop : ∀ (k9 i : Nat) , i ≤ n → n + 1 ≤ i + k9 → ∀ (H : Heap) (locs : List Loc), hv_I G h s h H locs → ∀ ls : Array Slot, lv_has ls 3 [(2, .int (nI i)), (1, .int (l_sum (ar 6) i)), (0, .ref o)] → W p l e (hv_rm 0 0 0 0) s m (([.ref o] : List Value).toArray) below meth c H locs 0 0 (MQ below (va_Qi (fun r u => u = h ∧ r = l_sum (ar 6) n) (hv_Bq G h s.heap.size) (hv_A h s.heap.size)) (([.ref o] : List Value).toArray) s 0 0 (hv_A h s.heap.size)) (F0 m 4 ls []) := by
    intro k9
    induction k9 with
    | zero => intro i hi hin; exact absurd hin (by omega)
    | succ k9 ih =>
      intro i hi hin H locs I ls hl
      refine lv_iload_n C.1 C.2.1 dX5_allShares_4 rfl (lv_at hl 0 rfl) ?_
      refine lv_aload_n C.1 C.2.1 dX5_allShares_5 rfl (lv_at hl 2 rfl) ?_
      refine hv_get (ci := 6) (Cn := RX5) (T := TX5) (N := 21) (ref := "DividendDeskModel") (v := .int (nI n)) C I hM.1 wX5 rfl 3 (by decide) (by decide +kernel) (fun _ h9 => h9) rfl dX5_allShares_6 ?_
      refine lv_icmp_ge (tgt := 27) C.1 C.2.1 dX5_allShares_9 (by decide) (fun c9 => ?_) (fun c9 => ?_)
      · have hi9 : i = n := Nat.le_antisymm hi (hv_leN (by omega) (by omega) c9)
        refine lv_iload_n C.1 C.2.1 dX5_allShares_27 rfl (lv_at hl 1 rfl) ?_
        exact hv_iret (v := (l_sum (ar 6) i)) C hr I (⟨rfl, by rw [hi9]⟩) dX5_allShares_28 (Nat.le_of_ble_eq_true rfl) (Nat.le_of_ble_eq_true rfl)
      · have hi9 : i < n := hv_ltN (by omega) (by omega) c9
        refine lv_iload_n C.1 C.2.1 dX5_allShares_12 rfl (lv_at hl 1 rfl) ?_
        refine lv_aload_n C.1 C.2.1 dX5_allShares_13 rfl (lv_at hl 2 rfl) ?_
        refine hv_get (ci := 6) (Cn := RX5) (T := TX5) (N := 21) (ref := "DividendDeskModel") (v := .ref (ad 6)) C I hM.1 wX5 rfl 6 (by decide) (by decide +kernel) (fun _ h9 => h9) rfl dX5_allShares_14 ?_
        refine lv_iload_n C.1 C.2.1 dX5_allShares_17 rfl (lv_at hl 0 rfl) ?_
        refine hv_ialdN (n := 20) (f := ar 6) C I (isM_a hM 6 rfl) (show i < 20 by omega) (by decide) dX5_allShares_18 ?_
        refine lv_iadd C.1 C.2.1 dX5_allShares_19 ?_
        refine lv_topi (fun z_1 ez_1 => ?_)
        have ez_1 : z_1 = l_sum (ar 6) (i + 1) := by rw [ez_1]; rfl
        subst ez_1
        refine lv_istore_n (lv' := [(1, .int (l_sum (ar 6) (i + 1))), (2, .int (nI i)), (0, .ref o)]) C.1 C.2.1 dX5_allShares_20 rfl hl (by decide) rfl (fun ls hl => ?_)
        refine lv_iinc (v := nI (i + 1)) (lv' := [(2, .int (nI (i + 1))), (1, .int (l_sum (ar 6) (i + 1))), (0, .ref o)]) C.1 C.2.1 dX5_allShares_21 hl (k := 1) rfl (nI_1 i) (by decide) rfl (fun ls hl => ?_)
        refine lv_goto (tgt := 4) C.1 C.2.1 dX5_allShares_24 (by decide) ?_
        exact ih (i + 1) (by omega) (by omega)  _ _ I ls (lv_sub hl [0, 1, 2] rfl)
  exact loop (n + 1) 0 (Nat.zero_le _) (by omega) _ _ I ls (lv_sub hl [0, 1, 2] rfl)

set_option maxHeartbeats 4000000 in
set_option maxRecDepth 100000 in
theorem c_X5_setShares (l : Launch) (G : hv_G) (h : hv) (sz : Nat) {o : Nat} {ad : Nat → Nat} {dy : Int32} {n d : Nat} {rf : Int64} {th : Int32} {ar : Nat → Nat → Int32} (hM : isM G h o ad dy n d rf th ar) (p0 p1 : Int32) (hn : n ≤ 20) : hv_Mi l yX5_setShares wsX5_setShares 2 60 0 0 G h sz [.ref o, .int p0, .int p1] (fun r u => (fSs p0 p1 n (ar 6) = 0 → (r = ar 6 p0.toNatClampNeg ∧ isM G u o ad dy n d rf 0 (va_up ar 6 (upd (ar 6) p0.toNatClampNeg p1)))) ∧ (¬ fSs p0 p1 n (ar 6) = 0 → isM G u o ad dy n d rf (fSs p0 p1 n (ar 6)) ar)) := by
  have wX5 : ∀ w ∈ wsX50, w ∈ wsX5_setShares := by decide +kernel
  refine hv_enter (y := yX5_setShares) (avs := [.ref o, .int p0, .int p1]) (maxL := 4) (Qf := fun sz => va_Qi (fun r u => (fSs p0 p1 n (ar 6) = 0 → (r = ar 6 p0.toNatClampNeg ∧ isM G u o ad dy n d rf 0 (va_up ar 6 (upd (ar 6) p0.toNatClampNeg p1)))) ∧ (¬ fSs p0 p1 n (ar 6) = 0 → isM G u o ad dy n d rf (fSs p0 p1 n (ar 6)) ar)) (hv_Bq G h sz) (hv_A h sz)) (by decide) rfl rfl (Nat.le_of_ble_eq_true rfl) ?_
  intro p e s m below meth c hr hnm C I ls hl
  have hl : lv_has ls 4 [(0, .ref o), (1, .int p0), (2, .int p1)] := hl
  refine lv_aload_n C.1 C.2.1 dX5_setShares_0 rfl (lv_at hl 0 rfl) ?_
  refine lv_aload_n C.1 C.2.1 dX5_setShares_1 rfl (lv_at hl 0 rfl) ?_
  refine lv_iload_n C.1 C.2.1 dX5_setShares_2 rfl (lv_at hl 1 rfl) ?_
  refine hv_ki I (va_runV (As := [.int p0]) (rest := [.ref o]) C.fix (c_X5_isHolder l G h _ hM p0) (cwV 1 C.2.2.2.2.1 gX5_setShares_X5_isHolder rfl rfl rfl (by decide +kernel) ⟨Nat.le_of_ble_eq_true rfl, Nat.le_of_ble_eq_true rfl⟩) (hv_preV C I hM.1 (r := (RX5, TX5, 21)) rfl) rfl rfl hl.1 rfl (lv_room (Nat.le_of_ble_eq_true rfl)) dX5_setShares_3 ⟨Nat.le_of_ble_eq_true rfl, Nat.le_of_ble_eq_true rfl⟩) (fun ru_1 u_1 H locs pu_1 I => ?_)
  obtain ⟨e1, e2⟩ := pu_1; have e1 := e1.symm; subst e1; have e2 := e2.symm; subst e2
  refine lv_if_ne (tgt := 13) C.1 C.2.1 dX5_setShares_6 (by decide) (fun c6 => ?_) (fun c6 => ?_)
  · refine lv_iload_n C.1 C.2.1 dX5_setShares_13 rfl (lv_at hl 2 rfl) ?_
    refine lv_iconst (v := 0) C.1 C.2.1 dX5_setShares_14 (by decide) ?_
    refine lv_ldc C.1 C.2.1 C.2.2.2.1 (C.ts (w := .constant RX5 80 (1000000)) (by decide +kernel)) dX5_setShares_15 ?_
    refine hv_ki I (va_runS (As := [.int p1, .int 0, .int (1000000)]) (rest := [.ref o]) C.fix (c_X5_isIn l G h _ p1 0 (1000000)) (va_cwS 3 C.2.2.2.2.1 gX5_setShares_X5_isIn rfl rfl rfl (by decide +kernel) ⟨Nat.le_of_ble_eq_true rfl, Nat.le_of_ble_eq_true rfl⟩) (hv_preS C I) rfl rfl hl.1 rfl (lv_room (Nat.le_of_ble_eq_true rfl)) dX5_setShares_17 ⟨Nat.le_of_ble_eq_true rfl, Nat.le_of_ble_eq_true rfl⟩) (fun ru_2 u_2 H locs pu_2 I => ?_)
    obtain ⟨e1, e2⟩ := pu_2; have e1 := e1.symm; subst e1; have e2 := e2.symm; subst e2
    refine lv_if_ne (tgt := 27) C.1 C.2.1 dX5_setShares_20 (by decide) (fun c20 => ?_) (fun c20 => ?_)
    · refine lv_aload_n C.1 C.2.1 dX5_setShares_27 rfl (lv_at hl 0 rfl) ?_
      refine hv_ki I (va_runV (As := []) (rest := [.ref o]) C.fix (c_X5_allShares l G h _ hM hn) (cwV 0 C.2.2.2.2.1 gX5_setShares_X5_allShares rfl rfl rfl (by decide +kernel) ⟨Nat.le_of_ble_eq_true rfl, Nat.le_of_ble_eq_true rfl⟩) (hv_preV C I hM.1 (r := (RX5, TX5, 21)) rfl) rfl rfl hl.1 rfl (lv_room (Nat.le_of_ble_eq_true rfl)) dX5_setShares_28 ⟨Nat.le_of_ble_eq_true rfl, Nat.le_of_ble_eq_true rfl⟩) (fun ru_3 u_3 H locs pu_3 I => ?_)
      obtain ⟨e1, e2⟩ := pu_3; have e1 := e1.symm; subst e1; have e2 := e2.symm; subst e2
      refine lv_aload_n C.1 C.2.1 dX5_setShares_31 rfl (lv_at hl 0 rfl) ?_
      refine hv_get (ci := 6) (Cn := RX5) (T := TX5) (N := 21) (ref := "DividendDeskModel") (v := .ref (ad 6)) C I hM.1 wX5 rfl 6 (by decide) (by decide +kernel) (fun _ h9 => h9) rfl dX5_setShares_32 ?_
      refine lv_iload_n C.1 C.2.1 dX5_setShares_35 rfl (lv_at hl 1 rfl) ?_
      refine hv_iald (n := 20) (f := ar 6) C I (isM_a hM 6 rfl) (iwh_vp 20 hn (by decide) c6) dX5_setShares_36 ?_
      refine lv_isub C.1 C.2.1 dX5_setShares_37 ?_
      refine lv_iload_n C.1 C.2.1 dX5_setShares_38 rfl (lv_at hl 2 rfl) ?_
      refine lv_iadd C.1 C.2.1 dX5_setShares_39 ?_
      refine lv_ldc C.1 C.2.1 C.2.2.2.1 (C.ts (w := .constant RX5 80 (1000000)) (by decide +kernel)) dX5_setShares_40 ?_
      refine lv_icmp_le (tgt := 49) C.1 C.2.1 dX5_setShares_42 (by decide) (fun c42 => ?_) (fun c42 => ?_)
      · refine lv_iconst (v := 0) C.1 C.2.1 dX5_setShares_49 (by decide) ?_
        refine hv_ki I (va_runV (As := [.int 0]) (rest := []) C.fix (c_X5_can l G h _ hM 0) (cwV 1 C.2.2.2.2.1 gX5_setShares_X5_can rfl rfl rfl (by decide +kernel) ⟨Nat.le_of_ble_eq_true rfl, Nat.le_of_ble_eq_true rfl⟩) (hv_preV C I hM.1 (r := (RX5, TX5, 21)) rfl) rfl rfl hl.1 rfl (lv_room (Nat.le_of_ble_eq_true rfl)) dX5_setShares_50 ⟨Nat.le_of_ble_eq_true rfl, Nat.le_of_ble_eq_true rfl⟩) (fun ru_4 u_4 H locs pu_4 I => ?_)
        obtain ⟨e1, hM⟩ := pu_4; have e1 := e1.symm; subst e1
        refine lv_if_ne (tgt := 58) C.1 C.2.1 dX5_setShares_53 (by decide) (fun c53 => ?_) (fun c53 => ?_)
        · refine lv_aload_n C.1 C.2.1 dX5_setShares_58 rfl (lv_at hl 0 rfl) ?_
          refine hv_get (ci := 6) (Cn := RX5) (T := TX5) (N := 21) (ref := "DividendDeskModel") (v := .ref (ad 6)) C I hM.1 wX5 rfl 6 (by decide) (by decide +kernel) (fun _ h9 => h9) rfl dX5_setShares_59 ?_
          refine lv_iload_n C.1 C.2.1 dX5_setShares_62 rfl (lv_at hl 1 rfl) ?_
          refine hv_iald (n := 20) (f := ar 6) C I (isM_a hM 6 rfl) (iwh_vp 20 hn (by decide) c6) dX5_setShares_63 ?_
          refine lv_istore_n (lv' := [(3, .int ((ar 6) p0.toNatClampNeg)), (0, .ref o), (1, .int p0), (2, .int p1)]) C.1 C.2.1 dX5_setShares_64 rfl hl (by decide) rfl (fun ls hl => ?_)
          refine lv_aload_n C.1 C.2.1 dX5_setShares_65 rfl (lv_at hl 1 rfl) ?_
          refine hv_get (ci := 6) (Cn := RX5) (T := TX5) (N := 21) (ref := "DividendDeskModel") (v := .ref (ad 6)) C I hM.1 wX5 rfl 6 (by decide) (by decide +kernel) (fun _ h9 => h9) rfl dX5_setShares_66 ?_
          refine lv_iload_n C.1 C.2.1 dX5_setShares_69 rfl (lv_at hl 2 rfl) ?_
          refine lv_iload_n C.1 C.2.1 dX5_setShares_70 rfl (lv_at hl 3 rfl) ?_
          refine hv_iast (n := 20) (f := ar 6) C I (isM_a hM 6 rfl) (iwh_vp 20 hn (by decide) c6) dX5_setShares_71 (fun H locs I => ?_)
          obtain ⟨h_5, eh_5⟩ : ∃ z, z = hv_up u_4 (ad 6) (.inl (G.2.1 0, 20, .inl (upd (ar 6) p0.toNatClampNeg p1))) := ⟨_, rfl⟩
          have I : hv_I G h s h_5 H locs := by rw [eh_5]; exact I
          have hM : isM G h_5 o ad dy n d rf 0 (va_up ar 6 (upd (ar 6) p0.toNatClampNeg p1)) := isM_st hM 6 rfl eh_5
          refine lv_iload_n C.1 C.2.1 dX5_setShares_72 rfl (lv_at hl 0 rfl) ?_
          exact hv_iret (v := ((ar 6) p0.toNatClampNeg)) C hr I (⟨fun _ => ⟨rfl, hM⟩, fun z => absurd (show fSs p0 p1 n (ar 6) = 0 by unfold fSs; first | (simp [c6, c20, c42, c53]; done) | ((repeat' split) <;> first | rfl | contradiction)) z⟩) dX5_setShares_73 (Nat.le_of_ble_eq_true rfl) (Nat.le_of_ble_eq_true rfl)
        · exact absurd c53 (by decide)
      · refine lv_iconst (v := 3) C.1 C.2.1 dX5_setShares_45 (by decide) ?_
        refine lv_goto (tgt := 50) C.1 C.2.1 dX5_setShares_46 (by decide) ?_
        refine hv_ki I (va_runV (As := [.int 3]) (rest := []) C.fix (c_X5_can l G h _ hM 3) (cwV 1 C.2.2.2.2.1 gX5_setShares_X5_can rfl rfl rfl (by decide +kernel) ⟨Nat.le_of_ble_eq_true rfl, Nat.le_of_ble_eq_true rfl⟩) (hv_preV C I hM.1 (r := (RX5, TX5, 21)) rfl) rfl rfl hl.1 rfl (lv_room (Nat.le_of_ble_eq_true rfl)) dX5_setShares_50 ⟨Nat.le_of_ble_eq_true rfl, Nat.le_of_ble_eq_true rfl⟩) (fun ru_6 u_6 H locs pu_6 I => ?_)
        obtain ⟨e1, hM⟩ := pu_6; have e1 := e1.symm; subst e1
        refine lv_if_ne (tgt := 58) C.1 C.2.1 dX5_setShares_53 (by decide) (fun c53 => ?_) (fun c53 => ?_)
        · exact absurd (by decide) c53
        · refine lv_iconst (v := 0) C.1 C.2.1 dX5_setShares_56 (by decide) ?_
          exact hv_iret (v := 0) C hr I ((fun eF => ⟨fun z => absurd (eF.symm.trans z) (by decide), fun _ => by rw [eF]; exact hM⟩) (show fSs p0 p1 n (ar 6) = 3 by unfold fSs; first | (simp [c6, c20, c42, c53]; done) | ((repeat' split) <;> first | rfl | contradiction))) dX5_setShares_57 (Nat.le_of_ble_eq_true rfl) (Nat.le_of_ble_eq_true rfl)
    · refine lv_iconst (v := 2) C.1 C.2.1 dX5_setShares_23 (by decide) ?_
      refine lv_goto (tgt := 50) C.1 C.2.1 dX5_setShares_24 (by decide) ?_
      refine hv_ki I (va_runV (As := [.int 2]) (rest := []) C.fix (c_X5_can l G h _ hM 2) (cwV 1 C.2.2.2.2.1 gX5_setShares_X5_can rfl rfl rfl (by decide +kernel) ⟨Nat.le_of_ble_eq_true rfl, Nat.le_of_ble_eq_true rfl⟩) (hv_preV C I hM.1 (r := (RX5, TX5, 21)) rfl) rfl rfl hl.1 rfl (lv_room (Nat.le_of_ble_eq_true rfl)) dX5_setShares_50 ⟨Nat.le_of_ble_eq_true rfl, Nat.le_of_ble_eq_true rfl⟩) (fun ru_7 u_7 H locs pu_7 I => ?_)
      obtain ⟨e1, hM⟩ := pu_7; have e1 := e1.symm; subst e1
      refine lv_if_ne (tgt := 58) C.1 C.2.1 dX5_setShares_53 (by decide) (fun c53 => ?_) (fun c53 => ?_)
      · exact absurd (by decide) c53
      · refine lv_iconst (v := 0) C.1 C.2.1 dX5_setShares_56 (by decide) ?_
        exact hv_iret (v := 0) C hr I ((fun eF => ⟨fun z => absurd (eF.symm.trans z) (by decide), fun _ => by rw [eF]; exact hM⟩) (show fSs p0 p1 n (ar 6) = 2 by unfold fSs; first | (simp [c6, c20, c53]; done) | ((repeat' split) <;> first | rfl | contradiction))) dX5_setShares_57 (Nat.le_of_ble_eq_true rfl) (Nat.le_of_ble_eq_true rfl)
  · refine lv_iconst (v := 1) C.1 C.2.1 dX5_setShares_9 (by decide) ?_
    refine lv_goto (tgt := 50) C.1 C.2.1 dX5_setShares_10 (by decide) ?_
    refine hv_ki I (va_runV (As := [.int 1]) (rest := []) C.fix (c_X5_can l G h _ hM 1) (cwV 1 C.2.2.2.2.1 gX5_setShares_X5_can rfl rfl rfl (by decide +kernel) ⟨Nat.le_of_ble_eq_true rfl, Nat.le_of_ble_eq_true rfl⟩) (hv_preV C I hM.1 (r := (RX5, TX5, 21)) rfl) rfl rfl hl.1 rfl (lv_room (Nat.le_of_ble_eq_true rfl)) dX5_setShares_50 ⟨Nat.le_of_ble_eq_true rfl, Nat.le_of_ble_eq_true rfl⟩) (fun ru_8 u_8 H locs pu_8 I => ?_)
    obtain ⟨e1, hM⟩ := pu_8; have e1 := e1.symm; subst e1
    refine lv_if_ne (tgt := 58) C.1 C.2.1 dX5_setShares_53 (by decide) (fun c53 => ?_) (fun c53 => ?_)
    · exact absurd (by decide) c53
    · refine lv_iconst (v := 0) C.1 C.2.1 dX5_setShares_56 (by decide) ?_
      exact hv_iret (v := 0) C hr I ((fun eF => ⟨fun z => absurd (eF.symm.trans z) (by decide), fun _ => by rw [eF]; exact hM⟩) (show fSs p0 p1 n (ar 6) = 1 by unfold fSs; first | (simp [c6, c53]; done) | ((repeat' split) <;> first | rfl | contradiction))) dX5_setShares_57 (Nat.le_of_ble_eq_true rfl) (Nat.le_of_ble_eq_true rfl)

set_option maxHeartbeats 4000000 in
set_option maxRecDepth 100000 in
theorem c_X5_giveForm (l : Launch) (G : hv_G) (h : hv) (sz : Nat) {o : Nat} {ad : Nat → Nat} {dy : Int32} {n d : Nat} {rf : Int64} {th : Int32} {ar : Nat → Nat → Int32} (hM : isM G h o ad dy n d rf th ar) (p0 : Int32) (hn : n ≤ 20) : hv_Mi l yX5_giveForm wsX5_giveForm 2 60 0 0 G h sz [.ref o, .int p0] (fun r u => (fGf p0 n = 0 → (r = dy + 1080 ∧ isM G u o ad dy n d rf 0 (va_up ar 7 (upd (ar 7) p0.toNatClampNeg (dy + 1080))))) ∧ (¬ fGf p0 n = 0 → isM G u o ad dy n d rf (fGf p0 n) ar)) := by
  have wX5 : ∀ w ∈ wsX50, w ∈ wsX5_giveForm := by decide +kernel
  refine hv_enter (y := yX5_giveForm) (avs := [.ref o, .int p0]) (maxL := 2) (Qf := fun sz => va_Qi (fun r u => (fGf p0 n = 0 → (r = dy + 1080 ∧ isM G u o ad dy n d rf 0 (va_up ar 7 (upd (ar 7) p0.toNatClampNeg (dy + 1080))))) ∧ (¬ fGf p0 n = 0 → isM G u o ad dy n d rf (fGf p0 n) ar)) (hv_Bq G h sz) (hv_A h sz)) (by decide) rfl rfl (Nat.le_of_ble_eq_true rfl) ?_
  intro p e s m below meth c hr hnm C I ls hl
  have hl : lv_has ls 2 [(0, .ref o), (1, .int p0)] := hl
  refine lv_aload_n C.1 C.2.1 dX5_giveForm_0 rfl (lv_at hl 0 rfl) ?_
  refine lv_aload_n C.1 C.2.1 dX5_giveForm_1 rfl (lv_at hl 0 rfl) ?_
  refine lv_iload_n C.1 C.2.1 dX5_giveForm_2 rfl (lv_at hl 1 rfl) ?_
  refine hv_ki I (va_runV (As := [.int p0]) (rest := [.ref o]) C.fix (c_X5_isHolder l G h _ hM p0) (cwV 1 C.2.2.2.2.1 gX5_giveForm_X5_isHolder rfl rfl rfl (by decide +kernel) ⟨Nat.le_of_ble_eq_true rfl, Nat.le_of_ble_eq_true rfl⟩) (hv_preV C I hM.1 (r := (RX5, TX5, 21)) rfl) rfl rfl hl.1 rfl (lv_room (Nat.le_of_ble_eq_true rfl)) dX5_giveForm_3 ⟨Nat.le_of_ble_eq_true rfl, Nat.le_of_ble_eq_true rfl⟩) (fun ru_1 u_1 H locs pu_1 I => ?_)
  obtain ⟨e1, e2⟩ := pu_1; have e1 := e1.symm; subst e1; have e2 := e2.symm; subst e2
  refine lv_if_eq (tgt := 13) C.1 C.2.1 dX5_giveForm_6 (by decide) (fun c6 => ?_) (fun c6 => ?_)
  · refine lv_iconst (v := 1) C.1 C.2.1 dX5_giveForm_13 (by decide) ?_
    refine hv_ki I (va_runV (As := [.int 1]) (rest := []) C.fix (c_X5_can l G h _ hM 1) (cwV 1 C.2.2.2.2.1 gX5_giveForm_X5_can rfl rfl rfl (by decide +kernel) ⟨Nat.le_of_ble_eq_true rfl, Nat.le_of_ble_eq_true rfl⟩) (hv_preV C I hM.1 (r := (RX5, TX5, 21)) rfl) rfl rfl hl.1 rfl (lv_room (Nat.le_of_ble_eq_true rfl)) dX5_giveForm_14 ⟨Nat.le_of_ble_eq_true rfl, Nat.le_of_ble_eq_true rfl⟩) (fun ru_2 u_2 H locs pu_2 I => ?_)
    obtain ⟨e1, hM⟩ := pu_2; have e1 := e1.symm; subst e1
    refine lv_if_ne (tgt := 22) C.1 C.2.1 dX5_giveForm_17 (by decide) (fun c17 => ?_) (fun c17 => ?_)
    · exact absurd (by decide) c17
    · refine lv_iconst (v := 0) C.1 C.2.1 dX5_giveForm_20 (by decide) ?_
      exact hv_iret (v := 0) C hr I ((fun eF => ⟨fun z => absurd (eF.symm.trans z) (by decide), fun _ => by rw [eF]; exact hM⟩) (show fGf p0 n = 1 by unfold fGf; first | (simp [c6, c17]; done) | ((repeat' split) <;> first | rfl | contradiction))) dX5_giveForm_21 (Nat.le_of_ble_eq_true rfl) (Nat.le_of_ble_eq_true rfl)
  · refine lv_iconst (v := 0) C.1 C.2.1 dX5_giveForm_9 (by decide) ?_
    refine lv_goto (tgt := 14) C.1 C.2.1 dX5_giveForm_10 (by decide) ?_
    refine hv_ki I (va_runV (As := [.int 0]) (rest := []) C.fix (c_X5_can l G h _ hM 0) (cwV 1 C.2.2.2.2.1 gX5_giveForm_X5_can rfl rfl rfl (by decide +kernel) ⟨Nat.le_of_ble_eq_true rfl, Nat.le_of_ble_eq_true rfl⟩) (hv_preV C I hM.1 (r := (RX5, TX5, 21)) rfl) rfl rfl hl.1 rfl (lv_room (Nat.le_of_ble_eq_true rfl)) dX5_giveForm_14 ⟨Nat.le_of_ble_eq_true rfl, Nat.le_of_ble_eq_true rfl⟩) (fun ru_3 u_3 H locs pu_3 I => ?_)
    obtain ⟨e1, hM⟩ := pu_3; have e1 := e1.symm; subst e1
    refine lv_if_ne (tgt := 22) C.1 C.2.1 dX5_giveForm_17 (by decide) (fun c17 => ?_) (fun c17 => ?_)
    · refine lv_aload_n C.1 C.2.1 dX5_giveForm_22 rfl (lv_at hl 0 rfl) ?_
      refine hv_get (ci := 6) (Cn := RX5) (T := TX5) (N := 21) (ref := "DividendDeskModel") (v := .ref (ad 7)) C I hM.1 wX5 rfl 7 (by decide) (by decide +kernel) (fun _ h9 => h9) rfl dX5_giveForm_23 ?_
      refine lv_iload_n C.1 C.2.1 dX5_giveForm_26 rfl (lv_at hl 1 rfl) ?_
      refine lv_aload_n C.1 C.2.1 dX5_giveForm_27 rfl (lv_at hl 0 rfl) ?_
      refine hv_get (ci := 6) (Cn := RX5) (T := TX5) (N := 21) (ref := "DividendDeskModel") (v := .int dy) C I hM.1 wX5 rfl 0 (by decide) (by decide +kernel) (fun _ h9 => h9) rfl dX5_giveForm_28 ?_
      refine lv_sipush (v := 1080) C.1 C.2.1 dX5_giveForm_31 (by decide) ?_
      refine lv_iadd C.1 C.2.1 dX5_giveForm_34 ?_
      refine hv_iast (n := 20) (f := ar 7) C I (isM_a hM 7 rfl) (iwh_vp 20 hn (by decide) c6) dX5_giveForm_35 (fun H locs I => ?_)
      obtain ⟨h_4, eh_4⟩ : ∃ z, z = hv_up u_3 (ad 7) (.inl (G.2.1 0, 20, .inl (upd (ar 7) p0.toNatClampNeg (dy + 1080)))) := ⟨_, rfl⟩
      have I : hv_I G h s h_4 H locs := by rw [eh_4]; exact I
      have hM : isM G h_4 o ad dy n d rf 0 (va_up ar 7 (upd (ar 7) p0.toNatClampNeg (dy + 1080))) := isM_st hM 7 rfl eh_4
      refine lv_aload_n C.1 C.2.1 dX5_giveForm_36 rfl (lv_at hl 0 rfl) ?_
      refine hv_get (ci := 6) (Cn := RX5) (T := TX5) (N := 21) (ref := "DividendDeskModel") (v := .ref (ad 7)) C I hM.1 wX5 rfl 7 (by decide) (by decide +kernel) (fun _ h9 => h9) rfl dX5_giveForm_37 ?_
      refine lv_iload_n C.1 C.2.1 dX5_giveForm_40 rfl (lv_at hl 1 rfl) ?_
      refine hv_iald (n := 20) (f := upd (ar 7) p0.toNatClampNeg (dy + 1080)) C I (isM_a hM 7 rfl) (iwh_vp 20 hn (by decide) c6) dX5_giveForm_41 ?_
      exact hv_iret (v := ((upd (ar 7) p0.toNatClampNeg (dy + 1080)) p0.toNatClampNeg)) C hr I (⟨fun _ => ⟨pk_us, hM⟩, fun z => absurd (show fGf p0 n = 0 by unfold fGf; first | (simp [c6, c17]; done) | ((repeat' split) <;> first | rfl | contradiction)) z⟩) dX5_giveForm_42 (Nat.le_of_ble_eq_true rfl) (Nat.le_of_ble_eq_true rfl)
    · exact absurd c17 (by decide)

set_option maxHeartbeats 4000000 in
set_option maxRecDepth 100000 in
theorem c_X5_pass (l : Launch) (G : hv_G) (h : hv) (sz : Nat) {o : Nat} {ad : Nat → Nat} {dy : Int32} {n d : Nat} {rf : Int64} {th : Int32} {ar : Nat → Nat → Int32} (hM : isM G h o ad dy n d rf th ar) (p0 : Int32) (hn : n ≤ 20) : hv_Mi l yX5_pass wsX5_pass 2 60 0 0 G h sz [.ref o, .int p0] (fun r u => (fPs p0 dy = 0 → (r = dy + p0 ∧ isM G u o ad (dy + p0) n d rf 0 (va_up ar 8 (psS (ar 6) (ar 8) dy n)))) ∧ (¬ fPs p0 dy = 0 → isM G u o ad dy n d rf (fPs p0 dy) ar)) := by
  have wX5 : ∀ w ∈ wsX50, w ∈ wsX5_pass := by decide +kernel
  refine hv_enter (y := yX5_pass) (avs := [.ref o, .int p0]) (maxL := 3) (Qf := fun sz => va_Qi (fun r u => (fPs p0 dy = 0 → (r = dy + p0 ∧ isM G u o ad (dy + p0) n d rf 0 (va_up ar 8 (psS (ar 6) (ar 8) dy n)))) ∧ (¬ fPs p0 dy = 0 → isM G u o ad dy n d rf (fPs p0 dy) ar)) (hv_Bq G h sz) (hv_A h sz)) (by decide) rfl rfl (Nat.le_of_ble_eq_true rfl) ?_
  intro p e s m below meth c hr hnm C I ls hl
  have hl : lv_has ls 3 [(0, .ref o), (1, .int p0)] := hl
  refine lv_aload_n C.1 C.2.1 dX5_pass_0 rfl (lv_at hl 0 rfl) ?_
  refine lv_iload_n C.1 C.2.1 dX5_pass_1 rfl (lv_at hl 1 rfl) ?_
  refine lv_iconst (v := 1) C.1 C.2.1 dX5_pass_2 (by decide) ?_
  refine lv_sipush (v := 2000) C.1 C.2.1 dX5_pass_3 (by decide) ?_
  refine hv_ki I (va_runS (As := [.int p0, .int 1, .int 2000]) (rest := [.ref o]) C.fix (c_X5_isIn l G h _ p0 1 2000) (va_cwS 3 C.2.2.2.2.1 gX5_pass_X5_isIn rfl rfl rfl (by decide +kernel) ⟨Nat.le_of_ble_eq_true rfl, Nat.le_of_ble_eq_true rfl⟩) (hv_preS C I) rfl rfl hl.1 rfl (lv_room (Nat.le_of_ble_eq_true rfl)) dX5_pass_6 ⟨Nat.le_of_ble_eq_true rfl, Nat.le_of_ble_eq_true rfl⟩) (fun ru_1 u_1 H locs pu_1 I => ?_)
  obtain ⟨e1, e2⟩ := pu_1; have e1 := e1.symm; subst e1; have e2 := e2.symm; subst e2
  refine lv_if_ne (tgt := 16) C.1 C.2.1 dX5_pass_9 (by decide) (fun c9 => ?_) (fun c9 => ?_)
  · refine lv_aload_n C.1 C.2.1 dX5_pass_16 rfl (lv_at hl 0 rfl) ?_
    refine hv_get (ci := 6) (Cn := RX5) (T := TX5) (N := 21) (ref := "DividendDeskModel") (v := .int dy) C I hM.1 wX5 rfl 0 (by decide) (by decide +kernel) (fun _ h9 => h9) rfl dX5_pass_17 ?_
    refine lv_iload_n C.1 C.2.1 dX5_pass_20 rfl (lv_at hl 1 rfl) ?_
    refine lv_iadd C.1 C.2.1 dX5_pass_21 ?_
    refine lv_sipush (v := 20000) C.1 C.2.1 dX5_pass_22 (by decide) ?_
    refine lv_icmp_le (tgt := 32) C.1 C.2.1 dX5_pass_25 (by decide) (fun c25 => ?_) (fun c25 => ?_)
    · refine lv_iconst (v := 0) C.1 C.2.1 dX5_pass_32 (by decide) ?_
      refine hv_ki I (va_runV (As := [.int 0]) (rest := []) C.fix (c_X5_can l G h _ hM 0) (cwV 1 C.2.2.2.2.1 gX5_pass_X5_can rfl rfl rfl (by decide +kernel) ⟨Nat.le_of_ble_eq_true rfl, Nat.le_of_ble_eq_true rfl⟩) (hv_preV C I hM.1 (r := (RX5, TX5, 21)) rfl) rfl rfl hl.1 rfl (lv_room (Nat.le_of_ble_eq_true rfl)) dX5_pass_33 ⟨Nat.le_of_ble_eq_true rfl, Nat.le_of_ble_eq_true rfl⟩) (fun ru_2 u_2 H locs pu_2 I => ?_)
      obtain ⟨e1, hM⟩ := pu_2; have e1 := e1.symm; subst e1
      refine lv_if_ne (tgt := 41) C.1 C.2.1 dX5_pass_36 (by decide) (fun c36 => ?_) (fun c36 => ?_)
      · refine lv_iconst (v := 0) C.1 C.2.1 dX5_pass_41 (by decide) ?_
        refine lv_istore_n (lv' := [(2, .int 0), (0, .ref o), (1, .int p0)]) C.1 C.2.1 dX5_pass_42 rfl hl (by decide) rfl (fun ls hl => ?_)
        have loop : ∀ (k9 i : Nat), i ≤ n → n + 1 ≤ i + k9 → ∀ (h1 : hv) (H : Heap) (locs : List Loc), isM G h1 o ad dy n d rf 0 (va_up ar 8 (psS (ar 6) (ar 8) dy i)) → hv_I G h s h1 H locs → ∀ ls : Array Slot, lv_has ls 3 [(2, .int (nI i)), (0, .ref o), (1, .int p0)] → W p l e (hv_rm 2 0 0 60) s m (([.ref o, .int p0] : List Value).toArray) below meth c H locs (0 + 0 + 0) (0 + 0 + 0) (MQ below (va_Qi (fun r u => (fPs p0 dy = 0 → (r = dy + p0 ∧ isM G u o ad (dy + p0) n d rf 0 (va_up ar 8 (psS (ar 6) (ar 8) dy n)))) ∧ (¬ fPs p0 dy = 0 → isM G u o ad dy n d rf (fPs p0 dy) ar)) (hv_Bq G h s.heap.size) (hv_A h s.heap.size)) (([.ref o, .int p0] : List Value).toArray) s 0 0 (hv_A h s.heap.size)) (F0 m 43 ls []) := by
          intro k9
          induction k9 with
          | zero => intro i hi hin; exact absurd hin (by omega)
          | succ k9 ih =>
            intro i hi hin h1 H locs hM I ls hl
            refine lv_iload_n C.1 C.2.1 dX5_pass_43 rfl (lv_at hl 0 rfl) ?_
            refine lv_aload_n C.1 C.2.1 dX5_pass_44 rfl (lv_at hl 1 rfl) ?_
            refine hv_get (ci := 6) (Cn := RX5) (T := TX5) (N := 21) (ref := "DividendDeskModel") (v := .int (nI n)) C I hM.1 wX5 rfl 3 (by decide) (by decide +kernel) (fun _ h9 => h9) rfl dX5_pass_45 ?_
            refine lv_icmp_ge (tgt := 101) C.1 C.2.1 dX5_pass_48 (by decide) (fun c48 => ?_) (fun c48 => ?_)
            · have hi48 : i = n := Nat.le_antisymm hi (hv_leN (by omega) (by omega) c48)
              refine lv_aload_n C.1 C.2.1 dX5_pass_101 rfl (lv_at hl 1 rfl) ?_
              refine lv_dup C.1 C.2.1 dX5_pass_102 rfl ?_
              refine hv_get (ci := 6) (Cn := RX5) (T := TX5) (N := 21) (ref := "DividendDeskModel") (v := .int dy) C I hM.1 wX5 rfl 0 (by decide) (by decide +kernel) (fun _ h9 => h9) rfl dX5_pass_103 ?_
              refine lv_iload_n C.1 C.2.1 dX5_pass_106 rfl (lv_at hl 2 rfl) ?_
              refine lv_iadd C.1 C.2.1 dX5_pass_107 ?_
              refine hv_put (ci := 6) (Cn := RX5) (T := TX5) (N := 21) (ref := "DividendDeskModel") (ty := .int) (v := .int (dy + p0)) C I hM.1 wX5 tyX5 tyX5_ok nmX5 rfl 0 (by decide) (by decide +kernel) (fun _ h9 => h9) rfl (by decide +kernel) rfl rfl (Nat.le_of_ble_eq_true rfl) dX5_pass_108 (fun H locs I => ?_)
              have I : hv_I G h s (hv_up h1 o (.inr (6, [.int (dy + p0), .ref (ad 1), .ref (ad 2), .int (nI n), .ref (ad 4), .ref (ad 5), .ref (ad 6), .ref (ad 7), .ref (ad 8), .ref (ad 9), .int (nI d), .ref (ad 11), .ref (ad 12), .ref (ad 13), .ref (ad 14), .ref (ad 15), .ref (ad 16), .ref (ad 17), .ref (ad 18), .long rf, .int 0]))) H locs := I
              obtain ⟨h_3, eh_3⟩ : ∃ z, z = hv_up h1 o (.inr (6, [.int (dy + p0), .ref (ad 1), .ref (ad 2), .int (nI n), .ref (ad 4), .ref (ad 5), .ref (ad 6), .ref (ad 7), .ref (ad 8), .ref (ad 9), .int (nI d), .ref (ad 11), .ref (ad 12), .ref (ad 13), .ref (ad 14), .ref (ad 15), .ref (ad 16), .ref (ad 17), .ref (ad 18), .long rf, .int 0])) := ⟨_, rfl⟩
              have I : hv_I G h s h_3 H locs := by rw [eh_3]; exact I
              have hM : isM G h_3 o ad (dy + p0) n d rf 0 (va_up ar 8 (psS (ar 6) (ar 8) dy i)) := isM_o hM eh_3
              refine lv_aload_n C.1 C.2.1 dX5_pass_111 rfl (lv_at hl 1 rfl) ?_
              refine hv_get (ci := 6) (Cn := RX5) (T := TX5) (N := 21) (ref := "DividendDeskModel") (v := .int (dy + p0)) C I hM.1 wX5 rfl 0 (by decide) (by decide +kernel) (fun _ h9 => h9) rfl dX5_pass_112 ?_
              exact hv_iret (v := (dy + p0)) C hr I (⟨fun _ => ⟨rfl, isM_ar hM (by rw [hi48])⟩, fun z => absurd (show fPs p0 dy = 0 by unfold fPs; first | (simp [c9, c25, c36, c48]; done) | ((repeat' split) <;> first | rfl | contradiction)) z⟩) dX5_pass_115 (Nat.le_of_ble_eq_true rfl) (Nat.le_of_ble_eq_true rfl)
            · have hi48 : i < n := hv_ltN (by omega) (by omega) c48
              refine lv_aload_n C.1 C.2.1 dX5_pass_51 rfl (lv_at hl 1 rfl) ?_
              refine hv_get (ci := 6) (Cn := RX5) (T := TX5) (N := 21) (ref := "DividendDeskModel") (v := .ref (ad 8)) C I hM.1 wX5 rfl 8 (by decide) (by decide +kernel) (fun _ h9 => h9) rfl dX5_pass_52 ?_
              refine lv_iload_n C.1 C.2.1 dX5_pass_55 rfl (lv_at hl 0 rfl) ?_
              have J94 : ∀ (z_4 : Int32), z_4 = (sinceF (ar 6 i) (ar 8 i) dy) → ∀ (H : Heap) (locs : List Loc), hv_I G h s h1 H locs → W p l e (hv_rm 2 0 0 60) s m (([.ref o, .int p0] : List Value).toArray) below meth c H locs (0 + 0 + 0) (0 + 0 + 0) (MQ below (va_Qi (fun r u => (fPs p0 dy = 0 → (r = dy + p0 ∧ isM G u o ad (dy + p0) n d rf 0 (va_up ar 8 (psS (ar 6) (ar 8) dy n)))) ∧ (¬ fPs p0 dy = 0 → isM G u o ad dy n d rf (fPs p0 dy) ar)) (hv_Bq G h s.heap.size) (hv_A h s.heap.size)) (([.ref o, .int p0] : List Value).toArray) s 0 0 (hv_A h s.heap.size)) (F0 m 94 ls [.int z_4, .int (nI i), .ref (ad 8)]) := by
                intro z_4 ez_4 H locs I; subst ez_4
                refine hv_iastN (n := 20) (f := (psS (ar 6) (ar 8) dy i)) C I (isM_a hM 8 rfl) (show i < 20 by omega) (by decide) dX5_pass_94 (fun H locs I => ?_)
                obtain ⟨h_5, eh_5⟩ : ∃ z, z = hv_up h1 (ad 8) (.inl (G.2.1 0, 20, .inl (upd (psS (ar 6) (ar 8) dy i) i (sinceF (ar 6 i) (ar 8 i) dy)))) := ⟨_, rfl⟩
                have I : hv_I G h s h_5 H locs := by rw [eh_5]; exact I
                have hM : isM G h_5 o ad dy n d rf 0 (va_up (va_up ar 8 (psS (ar 6) (ar 8) dy i)) 8 (upd (psS (ar 6) (ar 8) dy i) i (sinceF (ar 6 i) (ar 8 i) dy))) := isM_st hM 8 rfl eh_5
                refine lv_iinc (v := nI (i + 1)) (lv' := [(2, .int (nI (i + 1))), (0, .ref o), (1, .int p0)]) C.1 C.2.1 dX5_pass_95 hl (k := 0) rfl (nI_1 i) (by decide) rfl (fun ls hl => ?_)
                refine lv_goto (tgt := 43) C.1 C.2.1 dX5_pass_98 (by decide) ?_
                exact ih (i + 1) (by omega) (by omega) _ _ _ (isM_ar hM (by rw [va_up_up, psS_1])) I ls (lv_sub hl [0, 1, 2] rfl)
              refine lv_aload_n C.1 C.2.1 dX5_pass_56 rfl (lv_at hl 1 rfl) ?_
              refine hv_get (ci := 6) (Cn := RX5) (T := TX5) (N := 21) (ref := "DividendDeskModel") (v := .ref (ad 6)) C I hM.1 wX5 rfl 6 (by decide) (by decide +kernel) (fun _ h9 => h9) rfl dX5_pass_57 ?_
              refine lv_iload_n C.1 C.2.1 dX5_pass_60 rfl (lv_at hl 0 rfl) ?_
              refine hv_ialdN (n := 20) (f := ar 6) C I (isM_a hM 6 rfl) (show i < 20 by omega) (by decide) dX5_pass_61 ?_
              refine lv_ldc C.1 C.2.1 C.2.2.2.1 (C.ts (w := .constant RX5 88 (100000)) (by decide +kernel)) dX5_pass_62 ?_
              refine lv_icmp_ge (tgt := 71) C.1 C.2.1 dX5_pass_64 (by decide) (fun c64 => ?_) (fun c64 => ?_)
              · refine lv_aload_n C.1 C.2.1 dX5_pass_71 rfl (lv_at hl 1 rfl) ?_
                refine hv_get (ci := 6) (Cn := RX5) (T := TX5) (N := 21) (ref := "DividendDeskModel") (v := .ref (ad 8)) C I hM.1 wX5 rfl 8 (by decide) (by decide +kernel) (fun _ h9 => h9) rfl dX5_pass_72 ?_
                refine lv_iload_n C.1 C.2.1 dX5_pass_75 rfl (lv_at hl 0 rfl) ?_
                refine hv_ialdN (n := 20) (f := (psS (ar 6) (ar 8) dy i)) C I (isM_a hM 8 rfl) (show i < 20 by omega) (by decide) dX5_pass_76 ?_
                refine lv_topi (fun z_6 ez_6 => ?_)
                have ez_6 : z_6 = ar 8 i := by rw [ez_6]; exact psS_at _ _ _ _
                subst ez_6
                refine lv_iconst (v := (-1)) C.1 C.2.1 dX5_pass_77 (by decide) ?_
                refine lv_icmp_ne (tgt := 88) C.1 C.2.1 dX5_pass_78 (by decide) (fun c78 => ?_) (fun c78 => ?_)
                · refine lv_aload_n C.1 C.2.1 dX5_pass_88 rfl (lv_at hl 1 rfl) ?_
                  refine hv_get (ci := 6) (Cn := RX5) (T := TX5) (N := 21) (ref := "DividendDeskModel") (v := .ref (ad 8)) C I hM.1 wX5 rfl 8 (by decide) (by decide +kernel) (fun _ h9 => h9) rfl dX5_pass_89 ?_
                  refine lv_iload_n C.1 C.2.1 dX5_pass_92 rfl (lv_at hl 0 rfl) ?_
                  refine hv_ialdN (n := 20) (f := (psS (ar 6) (ar 8) dy i)) C I (isM_a hM 8 rfl) (show i < 20 by omega) (by decide) dX5_pass_93 ?_
                  exact J94 _ (by unfold sinceF; first | (simp [c64, c78, psS_at]; done) | ((repeat' split) <;> first | rfl | contradiction)) _ _ I
                · refine lv_aload_n C.1 C.2.1 dX5_pass_81 rfl (lv_at hl 1 rfl) ?_
                  refine hv_get (ci := 6) (Cn := RX5) (T := TX5) (N := 21) (ref := "DividendDeskModel") (v := .int dy) C I hM.1 wX5 rfl 0 (by decide) (by decide +kernel) (fun _ h9 => h9) rfl dX5_pass_82 ?_
                  refine lv_goto (tgt := 94) C.1 C.2.1 dX5_pass_85 (by decide) ?_
                  exact J94 _ (by unfold sinceF; first | (simp [c64, c78, psS_at]; done) | ((repeat' split) <;> first | rfl | contradiction)) _ _ I
              · refine lv_iconst (v := (-1)) C.1 C.2.1 dX5_pass_67 (by decide) ?_
                refine lv_goto (tgt := 94) C.1 C.2.1 dX5_pass_68 (by decide) ?_
                exact J94 _ (by unfold sinceF; first | (simp [c48, c64, psS_at]; done) | ((repeat' split) <;> first | rfl | contradiction)) _ _ I
        exact loop (n + 1) 0 (Nat.zero_le _) (by omega) _ _ _ (isM_ar hM (by rw [psS_0, va_up_id])) I ls (lv_sub hl [0, 1, 2] rfl)
      · exact absurd c36 (by decide)
    · refine lv_iconst (v := 2) C.1 C.2.1 dX5_pass_28 (by decide) ?_
      refine lv_goto (tgt := 33) C.1 C.2.1 dX5_pass_29 (by decide) ?_
      refine hv_ki I (va_runV (As := [.int 2]) (rest := []) C.fix (c_X5_can l G h _ hM 2) (cwV 1 C.2.2.2.2.1 gX5_pass_X5_can rfl rfl rfl (by decide +kernel) ⟨Nat.le_of_ble_eq_true rfl, Nat.le_of_ble_eq_true rfl⟩) (hv_preV C I hM.1 (r := (RX5, TX5, 21)) rfl) rfl rfl hl.1 rfl (lv_room (Nat.le_of_ble_eq_true rfl)) dX5_pass_33 ⟨Nat.le_of_ble_eq_true rfl, Nat.le_of_ble_eq_true rfl⟩) (fun ru_7 u_7 H locs pu_7 I => ?_)
      obtain ⟨e1, hM⟩ := pu_7; have e1 := e1.symm; subst e1
      refine lv_if_ne (tgt := 41) C.1 C.2.1 dX5_pass_36 (by decide) (fun c36 => ?_) (fun c36 => ?_)
      · exact absurd (by decide) c36
      · refine lv_iconst (v := 0) C.1 C.2.1 dX5_pass_39 (by decide) ?_
        exact hv_iret (v := 0) C hr I ((fun eF => ⟨fun z => absurd (eF.symm.trans z) (by decide), fun _ => by rw [eF]; exact hM⟩) (show fPs p0 dy = 2 by unfold fPs; first | (simp [c9, c25, c36]; done) | ((repeat' split) <;> first | rfl | contradiction))) dX5_pass_40 (Nat.le_of_ble_eq_true rfl) (Nat.le_of_ble_eq_true rfl)
  · refine lv_iconst (v := 1) C.1 C.2.1 dX5_pass_12 (by decide) ?_
    refine lv_goto (tgt := 33) C.1 C.2.1 dX5_pass_13 (by decide) ?_
    refine hv_ki I (va_runV (As := [.int 1]) (rest := []) C.fix (c_X5_can l G h _ hM 1) (cwV 1 C.2.2.2.2.1 gX5_pass_X5_can rfl rfl rfl (by decide +kernel) ⟨Nat.le_of_ble_eq_true rfl, Nat.le_of_ble_eq_true rfl⟩) (hv_preV C I hM.1 (r := (RX5, TX5, 21)) rfl) rfl rfl hl.1 rfl (lv_room (Nat.le_of_ble_eq_true rfl)) dX5_pass_33 ⟨Nat.le_of_ble_eq_true rfl, Nat.le_of_ble_eq_true rfl⟩) (fun ru_8 u_8 H locs pu_8 I => ?_)
    obtain ⟨e1, hM⟩ := pu_8; have e1 := e1.symm; subst e1
    refine lv_if_ne (tgt := 41) C.1 C.2.1 dX5_pass_36 (by decide) (fun c36 => ?_) (fun c36 => ?_)
    · exact absurd (by decide) c36
    · refine lv_iconst (v := 0) C.1 C.2.1 dX5_pass_39 (by decide) ?_
      exact hv_iret (v := 0) C hr I ((fun eF => ⟨fun z => absurd (eF.symm.trans z) (by decide), fun _ => by rw [eF]; exact hM⟩) (show fPs p0 dy = 1 by unfold fPs; first | (simp [c9, c36]; done) | ((repeat' split) <;> first | rfl | contradiction))) dX5_pass_40 (Nat.le_of_ble_eq_true rfl) (Nat.le_of_ble_eq_true rfl)
