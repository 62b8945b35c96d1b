/-! ===== both constructors ===== -/
def filC (c : Int32) (k : Nat) : Nat → Int32 := fun x => if x < k then c else 0
theorem filC_0 (c : Int32) : filC c 0 = fun _ => 0 := by
  funext x
  exact if_neg (Nat.not_lt_zero x)
theorem filC_1 (c : Int32) (k : Nat) : upd (filC c k) k c = filC c (k + 1) := by
  funext x
  unfold upd filC
  by_cases h : x = k
  · subst h
    simp
  · by_cases h2 : x < k
    · rw [if_neg h, if_pos h2, if_pos (by omega)]
    · rw [if_neg h, if_neg h2, if_neg (by omega)]
def arI : Nat → Nat → Int32 := va_up (va_up (va_up (va_up (fun _ _ => 0) 1 (filC 30 6)) 2 (filC 30 6)) 7 (filC (-1) 20)) 8 (filC (-1) 20)
theorem va_up_sw (ar : Nat → Nat → Int32) {i j : Nat} (h : ¬ i = j) (a b a2 b2 : Nat → Int32) : va_up (va_up (va_up (va_up ar i a) j b) i a2) j b2 = va_up (va_up ar i a2) j b2 := by
  funext x
  unfold va_up
  by_cases h1 : x = j
  · simp [h1]
  · by_cases h2 : x = i <;> simp [h1, h2]
def isQ (G : hv_G) (h : hv) (o : Nat) (vs : List Value) (ad : Nat → Nat) (S : List Nat) : Prop := h o = some (.inr (6, vs)) ∧ (∀ j ∈ S, h (ad j) = some (.inl (G.2.1 (mKd j), mLen j, .inl (fun _ => 0)))) ∧ ∀ i j, i ∈ S → j ∈ S → ad i = ad j → i = j
theorem isQ_step {G : hv_G} {h u : hv} {o q j : Nat} {vs vs2 : List Value} {ad : Nat → Nat} {S : List Nat} (hQ : isQ G h o vs ad S) (nq : h q = none) (hj : j ∉ S) (eu : u = hv_up (hv_up h q (.inl (G.2.1 (mKd j), mLen j, .inl (fun _ => 0)))) o (.inr (6, vs2))) : isQ G u o vs2 (va_up ad j q) (j :: S) := by
  have hq : ∀ i, i ∈ S → ¬ ad i = q := fun i hi => hv_neN (hQ.2.1 i hi) nq
  have hij : ∀ i, i ∈ S → ¬ i = j := fun i hi z => hj (z ▸ hi)
  refine ⟨by rw [eu]; exact hv_up_eq, fun i hi => ?_, fun i k hi hk e => ?_⟩
  · rcases List.mem_cons.mp hi with rfl | hi
    · rw [va_up_self, eu, hv_up_ne (hv_neN hQ.1 nq).symm]
      exact hv_up_eq
    · rw [va_up_ne _ _ (hij i hi), eu, hv_up_ne (hv_neAO (hQ.2.1 i hi) hQ.1), hv_up_ne (hq i hi)]
      exact hQ.2.1 i hi
  · by_cases ci : i = j <;> by_cases ck : k = j
    · exact ci.trans ck.symm
    · rw [ci, va_up_self, va_up_ne _ _ ck] at e
      exact absurd e.symm (hq k ((List.mem_cons.mp hk).resolve_left ck))
    · rw [ck, va_up_self, va_up_ne _ _ ci] at e
      exact absurd e (hq i ((List.mem_cons.mp hi).resolve_left ci))
    · rw [va_up_ne _ _ ci, va_up_ne _ _ ck] at e
      exact hQ.2.2 i k ((List.mem_cons.mp hi).resolve_left ci) ((List.mem_cons.mp hk).resolve_left ck) e
theorem mArr_mem (j : Nat) (hj : mArr j = true) : j ∈ [18, 17, 16, 15, 14, 13, 12, 11, 9, 8, 7, 6, 5, 4, 2, 1] := by
  have h : j < 19 := Nat.lt_of_not_le (fun z => by
    obtain ⟨k, rfl⟩ := Nat.exists_eq_add_of_le z
    rw [Nat.add_comm] at hj
    exact absurd hj (by simp [mArr]))
  have : ∀ j, j < 19 → mArr j = true → j ∈ [18, 17, 16, 15, 14, 13, 12, 11, 9, 8, 7, 6, 5, 4, 2, 1] := by decide
  exact this j h hj
def blk6 : List Value := [.int 0, .null, .null, .int 0, .null, .null, .null, .null, .null, .null, .int 0, .null, .null, .null, .null, .null, .null, .null, .null, .long 0, .int 0]
def ad0 (a g la lh lp : Nat) : Nat → Nat → Nat := fun k i => if k = 0 then a else if k = 1 then (if i = 0 then g else la) else (if i = 0 then lh else lp)
theorem isD_init {G : hv_G} {h : hv} {a g la lh lp : Nat} {fm : Nat → Int32} {po : Nat → List (Int32 × Int32 × Int32)} (fa : h a = some (.inr (5, [.ref g, .ref la, .ref lh, .ref lp, .int 0, .long 0]))) (fg : h g = some (.inl (G.2.1 0, 6, .inl (fun _ => 0)))) (fl : h la = some (.inl (G.2.1 0, 6, .inl (fun _ => 0)))) (fh : h lh = some (.inr (0, [.int 0, .ref (G.2.2 1), .int 0]))) (fp : h lp = some (.inr (0, [.int 0, .ref (G.2.2 1), .int 0]))) (n1 : ¬ g = la) (n2 : ¬ lh = lp) : ∃ ad, a = ad 0 0 ∧ isD G h ad 0 0 0 0 0 (fun _ _ => 0) fm po := by
  have ag : ¬ a = g := hv_neOA fa fg
  have al : ¬ a = la := hv_neOA fa fl
  have ah : ¬ a = lh := hv_neO fa fh (by decide)
  have ap : ¬ a = lp := hv_neO fa fp (by decide)
  have gh : ¬ g = lh := hv_neAO fg fh
  have gp : ¬ g = lp := hv_neAO fg fp
  have lh2 : ¬ la = lh := hv_neAO fl fh
  have lp2 : ¬ la = lp := hv_neAO fl fp
  have lv : ∀ k i, dLive 0 0 0 ((fun _ _ => 0 : Nat → Nat → Int32) 12) po k i → (k = 0 ∧ i = 0) ∨ (k = 1 ∧ i = 0) ∨ (k = 1 ∧ i = 1) ∨ (k = 2 ∧ i = 0) ∨ (k = 2 ∧ i = 1) := fun k i hl => by
    match k, hl with
    | 0, hl => exact Or.inl ⟨rfl, hl⟩
    | 1, hl =>
      have : i < 2 := hl
      omega
    | 2, hl =>
      have : i < 2 := hl
      omega
    | 3, hl => exact hl.elim (fun z => absurd rfl z.2) (fun z => absurd rfl z.2)
    | 4, hl => exact absurd hl (Nat.not_lt_zero _)
    | 5, hl => exact absurd hl (Nat.not_lt_zero _)
    | 6, hl => exact absurd hl (Nat.not_lt_zero _)
    | 7, hl => exact absurd hl (Nat.not_lt_zero _)
    | 8, hl => exact absurd hl.1 (Nat.not_lt_zero _)
    | 9, hl => exact absurd hl.1.1 (Nat.not_lt_zero _)
    | 10, hl => exact absurd hl.1 (Nat.not_lt_zero _)
    | 11, hl => exact absurd hl.1.1 (Nat.not_lt_zero _)
    | (x + 12), hl => exact hl.elim
  refine ⟨ad0 a g la lh lp, rfl, fun k i hl => ?_, fun k i k2 i2 hl hl2 e => ?_⟩
  · rcases lv k i hl with ⟨rfl, rfl⟩ | ⟨rfl, rfl⟩ | ⟨rfl, rfl⟩ | ⟨rfl, rfl⟩ | ⟨rfl, rfl⟩
    · exact fa
    · exact fg
    · exact fl
    · exact fh
    · exact fp
  · rcases lv k i hl with ⟨rfl, rfl⟩ | ⟨rfl, rfl⟩ | ⟨rfl, rfl⟩ | ⟨rfl, rfl⟩ | ⟨rfl, rfl⟩ <;> rcases lv k2 i2 hl2 with ⟨rfl, rfl⟩ | ⟨rfl, rfl⟩ | ⟨rfl, rfl⟩ | ⟨rfl, rfl⟩ | ⟨rfl, rfl⟩ <;> first | exact ⟨rfl, rfl⟩ | exact absurd e ag | exact absurd e al | exact absurd e ah | exact absurd e ap | exact absurd e.symm ag | exact absurd e.symm al | exact absurd e.symm ah | exact absurd e.symm ap | exact absurd e n1 | exact absurd e.symm n1 | exact absurd e gh | exact absurd e.symm gh | exact absurd e gp | exact absurd e.symm gp | exact absurd e lh2 | exact absurd e.symm lh2 | exact absurd e lp2 | exact absurd e.symm lp2 | exact absurd e n2 | exact absurd e.symm n2
set_option maxHeartbeats 8000000 in
set_option maxRecDepth 100000 in
theorem c_X5_init (l : Launch) (G : hv_G) (h : hv) (sz : Nat) {o : Nat} (fo0 : h o = some (.inr (6, blk6))) : hv_Mv l yX5_init wsX5_init 1 40 16 21352 G h sz [.ref o] (fun u => ∃ ad, isM G u o ad 0 0 0 0 0 arI) := by
  have wX5 : ∀ w ∈ wsX50, w ∈ wsX5_init := by decide +kernel
  have hQ : isQ G h o [.int 0, .null, .null, .int 0, .null, .null, .null, .null, .null, .null, .int 0, .null, .null, .null, .null, .null, .null, .null, .null, .long 0, .int 0] (fun _ => 0) [] := ⟨fo0, fun j hj => (by cases hj), fun i j hi => (by cases hi)⟩
  refine hv_enter (y := yX5_init) (avs := [.ref o]) (maxL := 2) (Qf := fun sz => va_Qv (fun u => ∃ ad, isM G u o ad 0 0 0 0 0 arI) (hv_Bq G h sz) (hv_A h sz)) (by decide) rfl rfl (Nat.le_of_ble_eq_true rfl) ?_
  intro p e s m below meth c hr hnm C I ls hl
  have hl : lv_has ls 2 [(0, .ref o)] := hl
  refine lv_aload_n C.1 C.2.1 dX5_init_0 rfl (lv_at hl 0 rfl) ?_
  refine W.objInit C.1 C.2.1 C.2.2.2.1 (C.ts (w := .methodLink RX5 1 objectInit) (by decide +kernel)) (C.ts (by decide +kernel)) (C.ts (by decide +kernel)) rfl (by rw [C.2.2.1]; exact hl.1) rfl dX5_init_1 (Nat.le_of_ble_eq_true rfl) (Nat.le_of_ble_eq_true rfl) ?_
  refine W.eq (g2 := F0 m 4 ls []) rfl ?_
  refine lv_aload_n C.1 C.2.1 dX5_init_4 rfl (lv_at hl 0 rfl) ?_
  refine lv_bipush (v := 6) C.1 C.2.1 dX5_init_5 (by decide) ?_
  refine hv_newI (N := 6) C I (by decide +kernel) (by decide) (by decide) (by decide) (Nat.le_of_ble_eq_true rfl) (Nat.le_of_ble_eq_true rfl) dX5_init_7 (fun q_1 H nq_1 I => ?_)
  obtain ⟨h_2, eh_2⟩ : ∃ z, z = hv_up h q_1 (.inl (G.2.1 0, 6, .inl (fun _ => 0))) := ⟨_, rfl⟩
  rw [← eh_2] at I
  have fo : h_2 o = some (.inr (6, [.int 0, .null, .null, .int 0, .null, .null, .null, .null, .null, .null, .int 0, .null, .null, .null, .null, .null, .null, .null, .null, .long 0, .int 0])) := by rw [eh_2, hv_up_ne (hv_neN hQ.1 nq_1)]; exact hQ.1
  refine hv_putF (ci := 6) (Cn := RX5) (T := TX5) (N := 21) (ref := "DividendDeskModel") (ty := .array .int) (v := .ref q_1) C I fo wX5 tyX5 tyX5_ok nmX5 rfl 1 (by decide) (by decide +kernel) (fun _ h9 => h9) rfl hnm rfl (by decide +kernel) rfl rfl (Nat.le_of_ble_eq_true rfl) dX5_init_9 (fun H locs I => ?_)
  have I : hv_I G h s (hv_up h_2 o (.inr (6, [.int 0, .ref q_1, .null, .int 0, .null, .null, .null, .null, .null, .null, .int 0, .null, .null, .null, .null, .null, .null, .null, .null, .long 0, .int 0]))) H locs := I
  obtain ⟨h_3, eh_3⟩ : ∃ z, z = hv_up h_2 o (.inr (6, [.int 0, .ref q_1, .null, .int 0, .null, .null, .null, .null, .null, .null, .int 0, .null, .null, .null, .null, .null, .null, .null, .null, .long 0, .int 0])) := ⟨_, rfl⟩
  have I : hv_I G h s h_3 H locs := by rw [eh_3]; exact I
  have fo9 : h_3 o = some (.inr (6, [.int 0, .ref q_1, .null, .int 0, .null, .null, .null, .null, .null, .null, .int 0, .null, .null, .null, .null, .null, .null, .null, .null, .long 0, .int 0])) := by rw [eh_3]; exact hv_up_eq
  have fo := fo9
  have hQ := isQ_step (j := 1) hQ nq_1 (by decide) (show h_3 = hv_up (hv_up h q_1 (.inl (G.2.1 0, 6, .inl (fun _ => 0)))) o (.inr (6, [.int 0, .ref q_1, .null, .int 0, .null, .null, .null, .null, .null, .null, .int 0, .null, .null, .null, .null, .null, .null, .null, .null, .long 0, .int 0])) by rw [eh_3, eh_2])
  refine lv_aload_n C.1 C.2.1 dX5_init_12 rfl (lv_at hl 0 rfl) ?_
  refine lv_bipush (v := 6) C.1 C.2.1 dX5_init_13 (by decide) ?_
  refine hv_newI (N := 6) C I (by decide +kernel) (by decide) (by decide) (by decide) (Nat.le_of_ble_eq_true rfl) (Nat.le_of_ble_eq_true rfl) dX5_init_15 (fun q_4 H nq_4 I => ?_)
  obtain ⟨h_5, eh_5⟩ : ∃ z, z = hv_up h_3 q_4 (.inl (G.2.1 0, 6, .inl (fun _ => 0))) := ⟨_, rfl⟩
  rw [← eh_5] at I
  have fo : h_5 o = some (.inr (6, [.int 0, .ref q_1, .null, .int 0, .null, .null, .null, .null, .null, .null, .int 0, .null, .null, .null, .null, .null, .null, .null, .null, .long 0, .int 0])) := by rw [eh_5, hv_up_ne (hv_neN hQ.1 nq_4)]; exact hQ.1
  refine hv_putF (ci := 6) (Cn := RX5) (T := TX5) (N := 21) (ref := "DividendDeskModel") (ty := .array .int) (v := .ref q_4) C I fo wX5 tyX5 tyX5_ok nmX5 rfl 2 (by decide) (by decide +kernel) (fun _ h9 => h9) rfl hnm rfl (by decide +kernel) rfl rfl (Nat.le_of_ble_eq_true rfl) dX5_init_17 (fun H locs I => ?_)
  have I : hv_I G h s (hv_up h_5 o (.inr (6, [.int 0, .ref q_1, .ref q_4, .int 0, .null, .null, .null, .null, .null, .null, .int 0, .null, .null, .null, .null, .null, .null, .null, .null, .long 0, .int 0]))) H locs := I
  obtain ⟨h_6, eh_6⟩ : ∃ z, z = hv_up h_5 o (.inr (6, [.int 0, .ref q_1, .ref q_4, .int 0, .null, .null, .null, .null, .null, .null, .int 0, .null, .null, .null, .null, .null, .null, .null, .null, .long 0, .int 0])) := ⟨_, rfl⟩
  have I : hv_I G h s h_6 H locs := by rw [eh_6]; exact I
  have fo9 : h_6 o = some (.inr (6, [.int 0, .ref q_1, .ref q_4, .int 0, .null, .null, .null, .null, .null, .null, .int 0, .null, .null, .null, .null, .null, .null, .null, .null, .long 0, .int 0])) := by rw [eh_6]; exact hv_up_eq
  have fo := fo9
  have hQ := isQ_step (j := 2) hQ nq_4 (by decide) (show h_6 = hv_up (hv_up h_3 q_4 (.inl (G.2.1 0, 6, .inl (fun _ => 0)))) o (.inr (6, [.int 0, .ref q_1, .ref q_4, .int 0, .null, .null, .null, .null, .null, .null, .int 0, .null, .null, .null, .null, .null, .null, .null, .null, .long 0, .int 0])) by rw [eh_6, eh_5])
  refine lv_aload_n C.1 C.2.1 dX5_init_20 rfl (lv_at hl 0 rfl) ?_
  refine lv_bipush (v := 20) C.1 C.2.1 dX5_init_21 (by decide) ?_
  refine hv_newI (N := 20) C I (by decide +kernel) (by decide) (by decide) (by decide) (Nat.le_of_ble_eq_true rfl) (Nat.le_of_ble_eq_true rfl) dX5_init_23 (fun q_7 H nq_7 I => ?_)
  obtain ⟨h_8, eh_8⟩ : ∃ z, z = hv_up h_6 q_7 (.inl (G.2.1 0, 20, .inl (fun _ => 0))) := ⟨_, rfl⟩
  rw [← eh_8] at I
  have fo : h_8 o = some (.inr (6, [.int 0, .ref q_1, .ref q_4, .int 0, .null, .null, .null, .null, .null, .null, .int 0, .null, .null, .null, .null, .null, .null, .null, .null, .long 0, .int 0])) := by rw [eh_8, hv_up_ne (hv_neN hQ.1 nq_7)]; exact hQ.1
  refine hv_putF (ci := 6) (Cn := RX5) (T := TX5) (N := 21) (ref := "DividendDeskModel") (ty := .array .int) (v := .ref q_7) C I fo wX5 tyX5 tyX5_ok nmX5 rfl 4 (by decide) (by decide +kernel) (fun _ h9 => h9) rfl hnm rfl (by decide +kernel) rfl rfl (Nat.le_of_ble_eq_true rfl) dX5_init_25 (fun H locs I => ?_)
  have I : hv_I G h s (hv_up h_8 o (.inr (6, [.int 0, .ref q_1, .ref q_4, .int 0, .ref q_7, .null, .null, .null, .null, .null, .int 0, .null, .null, .null, .null, .null, .null, .null, .null, .long 0, .int 0]))) H locs := I
  obtain ⟨h_9, eh_9⟩ : ∃ z, z = hv_up h_8 o (.inr (6, [.int 0, .ref q_1, .ref q_4, .int 0, .ref q_7, .null, .null, .null, .null, .null, .int 0, .null, .null, .null, .null, .null, .null, .null, .null, .long 0, .int 0])) := ⟨_, rfl⟩
  have I : hv_I G h s h_9 H locs := by rw [eh_9]; exact I
  have fo9 : h_9 o = some (.inr (6, [.int 0, .ref q_1, .ref q_4, .int 0, .ref q_7, .null, .null, .null, .null, .null, .int 0, .null, .null, .null, .null, .null, .null, .null, .null, .long 0, .int 0])) := by rw [eh_9]; exact hv_up_eq
  have fo := fo9
  have hQ := isQ_step (j := 4) hQ nq_7 (by decide) (show h_9 = hv_up (hv_up h_6 q_7 (.inl (G.2.1 0, 20, .inl (fun _ => 0)))) o (.inr (6, [.int 0, .ref q_1, .ref q_4, .int 0, .ref q_7, .null, .null, .null, .null, .null, .int 0, .null, .null, .null, .null, .null, .null, .null, .null, .long 0, .int 0])) by rw [eh_9, eh_8])
  refine lv_aload_n C.1 C.2.1 dX5_init_28 rfl (lv_at hl 0 rfl) ?_
  refine lv_bipush (v := 20) C.1 C.2.1 dX5_init_29 (by decide) ?_
  refine hv_newI (N := 20) C I (by decide +kernel) (by decide) (by decide) (by decide) (Nat.le_of_ble_eq_true rfl) (Nat.le_of_ble_eq_true rfl) dX5_init_31 (fun q_10 H nq_10 I => ?_)
  obtain ⟨h_11, eh_11⟩ : ∃ z, z = hv_up h_9 q_10 (.inl (G.2.1 0, 20, .inl (fun _ => 0))) := ⟨_, rfl⟩
  rw [← eh_11] at I
  have fo : h_11 o = some (.inr (6, [.int 0, .ref q_1, .ref q_4, .int 0, .ref q_7, .null, .null, .null, .null, .null, .int 0, .null, .null, .null, .null, .null, .null, .null, .null, .long 0, .int 0])) := by rw [eh_11, hv_up_ne (hv_neN hQ.1 nq_10)]; exact hQ.1
  refine hv_putF (ci := 6) (Cn := RX5) (T := TX5) (N := 21) (ref := "DividendDeskModel") (ty := .array .int) (v := .ref q_10) C I fo wX5 tyX5 tyX5_ok nmX5 rfl 5 (by decide) (by decide +kernel) (fun _ h9 => h9) rfl hnm rfl (by decide +kernel) rfl rfl (Nat.le_of_ble_eq_true rfl) dX5_init_33 (fun H locs I => ?_)
  have I : hv_I G h s (hv_up h_11 o (.inr (6, [.int 0, .ref q_1, .ref q_4, .int 0, .ref q_7, .ref q_10, .null, .null, .null, .null, .int 0, .null, .null, .null, .null, .null, .null, .null, .null, .long 0, .int 0]))) H locs := I
  obtain ⟨h_12, eh_12⟩ : ∃ z, z = hv_up h_11 o (.inr (6, [.int 0, .ref q_1, .ref q_4, .int 0, .ref q_7, .ref q_10, .null, .null, .null, .null, .int 0, .null, .null, .null, .null, .null, .null, .null, .null, .long 0, .int 0])) := ⟨_, rfl⟩
  have I : hv_I G h s h_12 H locs := by rw [eh_12]; exact I
  have fo9 : h_12 o = some (.inr (6, [.int 0, .ref q_1, .ref q_4, .int 0, .ref q_7, .ref q_10, .null, .null, .null, .null, .int 0, .null, .null, .null, .null, .null, .null, .null, .null, .long 0, .int 0])) := by rw [eh_12]; exact hv_up_eq
  have fo := fo9
  have hQ := isQ_step (j := 5) hQ nq_10 (by decide) (show h_12 = hv_up (hv_up h_9 q_10 (.inl (G.2.1 0, 20, .inl (fun _ => 0)))) o (.inr (6, [.int 0, .ref q_1, .ref q_4, .int 0, .ref q_7, .ref q_10, .null, .null, .null, .null, .int 0, .null, .null, .null, .null, .null, .null, .null, .null, .long 0, .int 0])) by rw [eh_12, eh_11])
  refine lv_aload_n C.1 C.2.1 dX5_init_36 rfl (lv_at hl 0 rfl) ?_
  refine lv_bipush (v := 20) C.1 C.2.1 dX5_init_37 (by decide) ?_
  refine hv_newI (N := 20) C I (by decide +kernel) (by decide) (by decide) (by decide) (Nat.le_of_ble_eq_true rfl) (Nat.le_of_ble_eq_true rfl) dX5_init_39 (fun q_13 H nq_13 I => ?_)
  obtain ⟨h_14, eh_14⟩ : ∃ z, z = hv_up h_12 q_13 (.inl (G.2.1 0, 20, .inl (fun _ => 0))) := ⟨_, rfl⟩
  rw [← eh_14] at I
  have fo : h_14 o = some (.inr (6, [.int 0, .ref q_1, .ref q_4, .int 0, .ref q_7, .ref q_10, .null, .null, .null, .null, .int 0, .null, .null, .null, .null, .null, .null, .null, .null, .long 0, .int 0])) := by rw [eh_14, hv_up_ne (hv_neN hQ.1 nq_13)]; exact hQ.1
  refine hv_putF (ci := 6) (Cn := RX5) (T := TX5) (N := 21) (ref := "DividendDeskModel") (ty := .array .int) (v := .ref q_13) C I fo wX5 tyX5 tyX5_ok nmX5 rfl 6 (by decide) (by decide +kernel) (fun _ h9 => h9) rfl hnm rfl (by decide +kernel) rfl rfl (Nat.le_of_ble_eq_true rfl) dX5_init_41 (fun H locs I => ?_)
  have I : hv_I G h s (hv_up h_14 o (.inr (6, [.int 0, .ref q_1, .ref q_4, .int 0, .ref q_7, .ref q_10, .ref q_13, .null, .null, .null, .int 0, .null, .null, .null, .null, .null, .null, .null, .null, .long 0, .int 0]))) H locs := I
  obtain ⟨h_15, eh_15⟩ : ∃ z, z = hv_up h_14 o (.inr (6, [.int 0, .ref q_1, .ref q_4, .int 0, .ref q_7, .ref q_10, .ref q_13, .null, .null, .null, .int 0, .null, .null, .null, .null, .null, .null, .null, .null, .long 0, .int 0])) := ⟨_, rfl⟩
  have I : hv_I G h s h_15 H locs := by rw [eh_15]; exact I
  have fo9 : h_15 o = some (.inr (6, [.int 0, .ref q_1, .ref q_4, .int 0, .ref q_7, .ref q_10, .ref q_13, .null, .null, .null, .int 0, .null, .null, .null, .null, .null, .null, .null, .null, .long 0, .int 0])) := by rw [eh_15]; exact hv_up_eq
  have fo := fo9
  have hQ := isQ_step (j := 6) hQ nq_13 (by decide) (show h_15 = hv_up (hv_up h_12 q_13 (.inl (G.2.1 0, 20, .inl (fun _ => 0)))) o (.inr (6, [.int 0, .ref q_1, .ref q_4, .int 0, .ref q_7, .ref q_10, .ref q_13, .null, .null, .null, .int 0, .null, .null, .null, .null, .null, .null, .null, .null, .long 0, .int 0])) by rw [eh_15, eh_14])
  refine lv_aload_n C.1 C.2.1 dX5_init_44 rfl (lv_at hl 0 rfl) ?_
  refine lv_bipush (v := 20) C.1 C.2.1 dX5_init_45 (by decide) ?_
  refine hv_newI (N := 20) C I (by decide +kernel) (by decide) (by decide) (by decide) (Nat.le_of_ble_eq_true rfl) (Nat.le_of_ble_eq_true rfl) dX5_init_47 (fun q_16 H nq_16 I => ?_)
  obtain ⟨h_17, eh_17⟩ : ∃ z, z = hv_up h_15 q_16 (.inl (G.2.1 0, 20, .inl (fun _ => 0))) := ⟨_, rfl⟩
  rw [← eh_17] at I
  have fo : h_17 o = some (.inr (6, [.int 0, .ref q_1, .ref q_4, .int 0, .ref q_7, .ref q_10, .ref q_13, .null, .null, .null, .int 0, .null, .null, .null, .null, .null, .null, .null, .null, .long 0, .int 0])) := by rw [eh_17, hv_up_ne (hv_neN hQ.1 nq_16)]; exact hQ.1
  refine hv_putF (ci := 6) (Cn := RX5) (T := TX5) (N := 21) (ref := "DividendDeskModel") (ty := .array .int) (v := .ref q_16) C I fo wX5 tyX5 tyX5_ok nmX5 rfl 7 (by decide) (by decide +kernel) (fun _ h9 => h9) rfl hnm rfl (by decide +kernel) rfl rfl (Nat.le_of_ble_eq_true rfl) dX5_init_49 (fun H locs I => ?_)
  have I : hv_I G h s (hv_up h_17 o (.inr (6, [.int 0, .ref q_1, .ref q_4, .int 0, .ref q_7, .ref q_10, .ref q_13, .ref q_16, .null, .null, .int 0, .null, .null, .null, .null, .null, .null, .null, .null, .long 0, .int 0]))) H locs := I
  obtain ⟨h_18, eh_18⟩ : ∃ z, z = hv_up h_17 o (.inr (6, [.int 0, .ref q_1, .ref q_4, .int 0, .ref q_7, .ref q_10, .ref q_13, .ref q_16, .null, .null, .int 0, .null, .null, .null, .null, .null, .null, .null, .null, .long 0, .int 0])) := ⟨_, rfl⟩
  have I : hv_I G h s h_18 H locs := by rw [eh_18]; exact I
  have fo9 : h_18 o = some (.inr (6, [.int 0, .ref q_1, .ref q_4, .int 0, .ref q_7, .ref q_10, .ref q_13, .ref q_16, .null, .null, .int 0, .null, .null, .null, .null, .null, .null, .null, .null, .long 0, .int 0])) := by rw [eh_18]; exact hv_up_eq
  have fo := fo9
  have hQ := isQ_step (j := 7) hQ nq_16 (by decide) (show h_18 = hv_up (hv_up h_15 q_16 (.inl (G.2.1 0, 20, .inl (fun _ => 0)))) o (.inr (6, [.int 0, .ref q_1, .ref q_4, .int 0, .ref q_7, .ref q_10, .ref q_13, .ref q_16, .null, .null, .int 0, .null, .null, .null, .null, .null, .null, .null, .null, .long 0, .int 0])) by rw [eh_18, eh_17])
  refine lv_aload_n C.1 C.2.1 dX5_init_52 rfl (lv_at hl 0 rfl) ?_
  refine lv_bipush (v := 20) C.1 C.2.1 dX5_init_53 (by decide) ?_
  refine hv_newI (N := 20) C I (by decide +kernel) (by decide) (by decide) (by decide) (Nat.le_of_ble_eq_true rfl) (Nat.le_of_ble_eq_true rfl) dX5_init_55 (fun q_19 H nq_19 I => ?_)
  obtain ⟨h_20, eh_20⟩ : ∃ z, z = hv_up h_18 q_19 (.inl (G.2.1 0, 20, .inl (fun _ => 0))) := ⟨_, rfl⟩
  rw [← eh_20] at I
  have fo : h_20 o = some (.inr (6, [.int 0, .ref q_1, .ref q_4, .int 0, .ref q_7, .ref q_10, .ref q_13, .ref q_16, .null, .null, .int 0, .null, .null, .null, .null, .null, .null, .null, .null, .long 0, .int 0])) := by rw [eh_20, hv_up_ne (hv_neN hQ.1 nq_19)]; exact hQ.1
  refine hv_putF (ci := 6) (Cn := RX5) (T := TX5) (N := 21) (ref := "DividendDeskModel") (ty := .array .int) (v := .ref q_19) C I fo wX5 tyX5 tyX5_ok nmX5 rfl 8 (by decide) (by decide +kernel) (fun _ h9 => h9) rfl hnm rfl (by decide +kernel) rfl rfl (Nat.le_of_ble_eq_true rfl) dX5_init_57 (fun H locs I => ?_)
  have I : hv_I G h s (hv_up h_20 o (.inr (6, [.int 0, .ref q_1, .ref q_4, .int 0, .ref q_7, .ref q_10, .ref q_13, .ref q_16, .ref q_19, .null, .int 0, .null, .null, .null, .null, .null, .null, .null, .null, .long 0, .int 0]))) H locs := I
  obtain ⟨h_21, eh_21⟩ : ∃ z, z = hv_up h_20 o (.inr (6, [.int 0, .ref q_1, .ref q_4, .int 0, .ref q_7, .ref q_10, .ref q_13, .ref q_16, .ref q_19, .null, .int 0, .null, .null, .null, .null, .null, .null, .null, .null, .long 0, .int 0])) := ⟨_, rfl⟩
  have I : hv_I G h s h_21 H locs := by rw [eh_21]; exact I
  have fo9 : h_21 o = some (.inr (6, [.int 0, .ref q_1, .ref q_4, .int 0, .ref q_7, .ref q_10, .ref q_13, .ref q_16, .ref q_19, .null, .int 0, .null, .null, .null, .null, .null, .null, .null, .null, .long 0, .int 0])) := by rw [eh_21]; exact hv_up_eq
  have fo := fo9
  have hQ := isQ_step (j := 8) hQ nq_19 (by decide) (show h_21 = hv_up (hv_up h_18 q_19 (.inl (G.2.1 0, 20, .inl (fun _ => 0)))) o (.inr (6, [.int 0, .ref q_1, .ref q_4, .int 0, .ref q_7, .ref q_10, .ref q_13, .ref q_16, .ref q_19, .null, .int 0, .null, .null, .null, .null, .null, .null, .null, .null, .long 0, .int 0])) by rw [eh_21, eh_20])
  refine lv_aload_n C.1 C.2.1 dX5_init_60 rfl (lv_at hl 0 rfl) ?_
  refine lv_sipush (v := 400) C.1 C.2.1 dX5_init_61 (by decide) ?_
  refine hv_newI (N := 400) C I (by decide +kernel) (by decide) (by decide) (by decide) (Nat.le_of_ble_eq_true rfl) (Nat.le_of_ble_eq_true rfl) dX5_init_64 (fun q_22 H nq_22 I => ?_)
  obtain ⟨h_23, eh_23⟩ : ∃ z, z = hv_up h_21 q_22 (.inl (G.2.1 0, 400, .inl (fun _ => 0))) := ⟨_, rfl⟩
  rw [← eh_23] at I
  have fo : h_23 o = some (.inr (6, [.int 0, .ref q_1, .ref q_4, .int 0, .ref q_7, .ref q_10, .ref q_13, .ref q_16, .ref q_19, .null, .int 0, .null, .null, .null, .null, .null, .null, .null, .null, .long 0, .int 0])) := by rw [eh_23, hv_up_ne (hv_neN hQ.1 nq_22)]; exact hQ.1
  refine hv_putF (ci := 6) (Cn := RX5) (T := TX5) (N := 21) (ref := "DividendDeskModel") (ty := .array .int) (v := .ref q_22) C I fo wX5 tyX5 tyX5_ok nmX5 rfl 9 (by decide) (by decide +kernel) (fun _ h9 => h9) rfl hnm rfl (by decide +kernel) rfl rfl (Nat.le_of_ble_eq_true rfl) dX5_init_66 (fun H locs I => ?_)
  have I : hv_I G h s (hv_up h_23 o (.inr (6, [.int 0, .ref q_1, .ref q_4, .int 0, .ref q_7, .ref q_10, .ref q_13, .ref q_16, .ref q_19, .ref q_22, .int 0, .null, .null, .null, .null, .null, .null, .null, .null, .long 0, .int 0]))) H locs := I
  obtain ⟨h_24, eh_24⟩ : ∃ z, z = hv_up h_23 o (.inr (6, [.int 0, .ref q_1, .ref q_4, .int 0, .ref q_7, .ref q_10, .ref q_13, .ref q_16, .ref q_19, .ref q_22, .int 0, .null, .null, .null, .null, .null, .null, .null, .null, .long 0, .int 0])) := ⟨_, rfl⟩
  have I : hv_I G h s h_24 H locs := by rw [eh_24]; exact I
  have fo9 : h_24 o = some (.inr (6, [.int 0, .ref q_1, .ref q_4, .int 0, .ref q_7, .ref q_10, .ref q_13, .ref q_16, .ref q_19, .ref q_22, .int 0, .null, .null, .null, .null, .null, .null, .null, .null, .long 0, .int 0])) := by rw [eh_24]; exact hv_up_eq
  have fo := fo9
  have hQ := isQ_step (j := 9) hQ nq_22 (by decide) (show h_24 = hv_up (hv_up h_21 q_22 (.inl (G.2.1 0, 400, .inl (fun _ => 0)))) o (.inr (6, [.int 0, .ref q_1, .ref q_4, .int 0, .ref q_7, .ref q_10, .ref q_13, .ref q_16, .ref q_19, .ref q_22, .int 0, .null, .null, .null, .null, .null, .null, .null, .null, .long 0, .int 0])) by rw [eh_24, eh_23])
  refine lv_aload_n C.1 C.2.1 dX5_init_69 rfl (lv_at hl 0 rfl) ?_
  refine lv_bipush (v := 40) C.1 C.2.1 dX5_init_70 (by decide) ?_
  refine hv_newI (N := 40) C I (by decide +kernel) (by decide) (by decide) (by decide) (Nat.le_of_ble_eq_true rfl) (Nat.le_of_ble_eq_true rfl) dX5_init_72 (fun q_25 H nq_25 I => ?_)
  obtain ⟨h_26, eh_26⟩ : ∃ z, z = hv_up h_24 q_25 (.inl (G.2.1 0, 40, .inl (fun _ => 0))) := ⟨_, rfl⟩
  rw [← eh_26] at I
  have fo : h_26 o = some (.inr (6, [.int 0, .ref q_1, .ref q_4, .int 0, .ref q_7, .ref q_10, .ref q_13, .ref q_16, .ref q_19, .ref q_22, .int 0, .null, .null, .null, .null, .null, .null, .null, .null, .long 0, .int 0])) := by rw [eh_26, hv_up_ne (hv_neN hQ.1 nq_25)]; exact hQ.1
  refine hv_putF (ci := 6) (Cn := RX5) (T := TX5) (N := 21) (ref := "DividendDeskModel") (ty := .array .int) (v := .ref q_25) C I fo wX5 tyX5 tyX5_ok nmX5 rfl 11 (by decide) (by decide +kernel) (fun _ h9 => h9) rfl hnm rfl (by decide +kernel) rfl rfl (Nat.le_of_ble_eq_true rfl) dX5_init_74 (fun H locs I => ?_)
  have I : hv_I G h s (hv_up h_26 o (.inr (6, [.int 0, .ref q_1, .ref q_4, .int 0, .ref q_7, .ref q_10, .ref q_13, .ref q_16, .ref q_19, .ref q_22, .int 0, .ref q_25, .null, .null, .null, .null, .null, .null, .null, .long 0, .int 0]))) H locs := I
  obtain ⟨h_27, eh_27⟩ : ∃ z, z = hv_up h_26 o (.inr (6, [.int 0, .ref q_1, .ref q_4, .int 0, .ref q_7, .ref q_10, .ref q_13, .ref q_16, .ref q_19, .ref q_22, .int 0, .ref q_25, .null, .null, .null, .null, .null, .null, .null, .long 0, .int 0])) := ⟨_, rfl⟩
  have I : hv_I G h s h_27 H locs := by rw [eh_27]; exact I
  have fo9 : h_27 o = some (.inr (6, [.int 0, .ref q_1, .ref q_4, .int 0, .ref q_7, .ref q_10, .ref q_13, .ref q_16, .ref q_19, .ref q_22, .int 0, .ref q_25, .null, .null, .null, .null, .null, .null, .null, .long 0, .int 0])) := by rw [eh_27]; exact hv_up_eq
  have fo := fo9
  have hQ := isQ_step (j := 11) hQ nq_25 (by decide) (show h_27 = hv_up (hv_up h_24 q_25 (.inl (G.2.1 0, 40, .inl (fun _ => 0)))) o (.inr (6, [.int 0, .ref q_1, .ref q_4, .int 0, .ref q_7, .ref q_10, .ref q_13, .ref q_16, .ref q_19, .ref q_22, .int 0, .ref q_25, .null, .null, .null, .null, .null, .null, .null, .long 0, .int 0])) by rw [eh_27, eh_26])
  refine lv_aload_n C.1 C.2.1 dX5_init_77 rfl (lv_at hl 0 rfl) ?_
  refine lv_sipush (v := 800) C.1 C.2.1 dX5_init_78 (by decide) ?_
  refine hv_newI (N := 800) C I (by decide +kernel) (by decide) (by decide) (by decide) (Nat.le_of_ble_eq_true rfl) (Nat.le_of_ble_eq_true rfl) dX5_init_81 (fun q_28 H nq_28 I => ?_)
  obtain ⟨h_29, eh_29⟩ : ∃ z, z = hv_up h_27 q_28 (.inl (G.2.1 0, 800, .inl (fun _ => 0))) := ⟨_, rfl⟩
  rw [← eh_29] at I
  have fo : h_29 o = some (.inr (6, [.int 0, .ref q_1, .ref q_4, .int 0, .ref q_7, .ref q_10, .ref q_13, .ref q_16, .ref q_19, .ref q_22, .int 0, .ref q_25, .null, .null, .null, .null, .null, .null, .null, .long 0, .int 0])) := by rw [eh_29, hv_up_ne (hv_neN hQ.1 nq_28)]; exact hQ.1
  refine hv_putF (ci := 6) (Cn := RX5) (T := TX5) (N := 21) (ref := "DividendDeskModel") (ty := .array .int) (v := .ref q_28) C I fo wX5 tyX5 tyX5_ok nmX5 rfl 12 (by decide) (by decide +kernel) (fun _ h9 => h9) rfl hnm rfl (by decide +kernel) rfl rfl (Nat.le_of_ble_eq_true rfl) dX5_init_83 (fun H locs I => ?_)
  have I : hv_I G h s (hv_up h_29 o (.inr (6, [.int 0, .ref q_1, .ref q_4, .int 0, .ref q_7, .ref q_10, .ref q_13, .ref q_16, .ref q_19, .ref q_22, .int 0, .ref q_25, .ref q_28, .null, .null, .null, .null, .null, .null, .long 0, .int 0]))) H locs := I
  obtain ⟨h_30, eh_30⟩ : ∃ z, z = hv_up h_29 o (.inr (6, [.int 0, .ref q_1, .ref q_4, .int 0, .ref q_7, .ref q_10, .ref q_13, .ref q_16, .ref q_19, .ref q_22, .int 0, .ref q_25, .ref q_28, .null, .null, .null, .null, .null, .null, .long 0, .int 0])) := ⟨_, rfl⟩
  have I : hv_I G h s h_30 H locs := by rw [eh_30]; exact I
  have fo9 : h_30 o = some (.inr (6, [.int 0, .ref q_1, .ref q_4, .int 0, .ref q_7, .ref q_10, .ref q_13, .ref q_16, .ref q_19, .ref q_22, .int 0, .ref q_25, .ref q_28, .null, .null, .null, .null, .null, .null, .long 0, .int 0])) := by rw [eh_30]; exact hv_up_eq
  have fo := fo9
  have hQ := isQ_step (j := 12) hQ nq_28 (by decide) (show h_30 = hv_up (hv_up h_27 q_28 (.inl (G.2.1 0, 800, .inl (fun _ => 0)))) o (.inr (6, [.int 0, .ref q_1, .ref q_4, .int 0, .ref q_7, .ref q_10, .ref q_13, .ref q_16, .ref q_19, .ref q_22, .int 0, .ref q_25, .ref q_28, .null, .null, .null, .null, .null, .null, .long 0, .int 0])) by rw [eh_30, eh_29])
  refine lv_aload_n C.1 C.2.1 dX5_init_86 rfl (lv_at hl 0 rfl) ?_
  refine lv_sipush (v := 800) C.1 C.2.1 dX5_init_87 (by decide) ?_
  refine hv_newI (N := 800) C I (by decide +kernel) (by decide) (by decide) (by decide) (Nat.le_of_ble_eq_true rfl) (Nat.le_of_ble_eq_true rfl) dX5_init_90 (fun q_31 H nq_31 I => ?_)
  obtain ⟨h_32, eh_32⟩ : ∃ z, z = hv_up h_30 q_31 (.inl (G.2.1 0, 800, .inl (fun _ => 0))) := ⟨_, rfl⟩
  rw [← eh_32] at I
  have fo : h_32 o = some (.inr (6, [.int 0, .ref q_1, .ref q_4, .int 0, .ref q_7, .ref q_10, .ref q_13, .ref q_16, .ref q_19, .ref q_22, .int 0, .ref q_25, .ref q_28, .null, .null, .null, .null, .null, .null, .long 0, .int 0])) := by rw [eh_32, hv_up_ne (hv_neN hQ.1 nq_31)]; exact hQ.1
  refine hv_putF (ci := 6) (Cn := RX5) (T := TX5) (N := 21) (ref := "DividendDeskModel") (ty := .array .int) (v := .ref q_31) C I fo wX5 tyX5 tyX5_ok nmX5 rfl 13 (by decide) (by decide +kernel) (fun _ h9 => h9) rfl hnm rfl (by decide +kernel) rfl rfl (Nat.le_of_ble_eq_true rfl) dX5_init_92 (fun H locs I => ?_)
  have I : hv_I G h s (hv_up h_32 o (.inr (6, [.int 0, .ref q_1, .ref q_4, .int 0, .ref q_7, .ref q_10, .ref q_13, .ref q_16, .ref q_19, .ref q_22, .int 0, .ref q_25, .ref q_28, .ref q_31, .null, .null, .null, .null, .null, .long 0, .int 0]))) H locs := I
  obtain ⟨h_33, eh_33⟩ : ∃ z, z = hv_up h_32 o (.inr (6, [.int 0, .ref q_1, .ref q_4, .int 0, .ref q_7, .ref q_10, .ref q_13, .ref q_16, .ref q_19, .ref q_22, .int 0, .ref q_25, .ref q_28, .ref q_31, .null, .null, .null, .null, .null, .long 0, .int 0])) := ⟨_, rfl⟩
  have I : hv_I G h s h_33 H locs := by rw [eh_33]; exact I
  have fo9 : h_33 o = some (.inr (6, [.int 0, .ref q_1, .ref q_4, .int 0, .ref q_7, .ref q_10, .ref q_13, .ref q_16, .ref q_19, .ref q_22, .int 0, .ref q_25, .ref q_28, .ref q_31, .null, .null, .null, .null, .null, .long 0, .int 0])) := by rw [eh_33]; exact hv_up_eq
  have fo := fo9
  have hQ := isQ_step (j := 13) hQ nq_31 (by decide) (show h_33 = hv_up (hv_up h_30 q_31 (.inl (G.2.1 0, 800, .inl (fun _ => 0)))) o (.inr (6, [.int 0, .ref q_1, .ref q_4, .int 0, .ref q_7, .ref q_10, .ref q_13, .ref q_16, .ref q_19, .ref q_22, .int 0, .ref q_25, .ref q_28, .ref q_31, .null, .null, .null, .null, .null, .long 0, .int 0])) by rw [eh_33, eh_32])
  refine lv_aload_n C.1 C.2.1 dX5_init_95 rfl (lv_at hl 0 rfl) ?_
  refine lv_sipush (v := 800) C.1 C.2.1 dX5_init_96 (by decide) ?_
  refine hv_newI (N := 800) C I (by decide +kernel) (by decide) (by decide) (by decide) (Nat.le_of_ble_eq_true rfl) (Nat.le_of_ble_eq_true rfl) dX5_init_99 (fun q_34 H nq_34 I => ?_)
  obtain ⟨h_35, eh_35⟩ : ∃ z, z = hv_up h_33 q_34 (.inl (G.2.1 0, 800, .inl (fun _ => 0))) := ⟨_, rfl⟩
  rw [← eh_35] at I
  have fo : h_35 o = some (.inr (6, [.int 0, .ref q_1, .ref q_4, .int 0, .ref q_7, .ref q_10, .ref q_13, .ref q_16, .ref q_19, .ref q_22, .int 0, .ref q_25, .ref q_28, .ref q_31, .null, .null, .null, .null, .null, .long 0, .int 0])) := by rw [eh_35, hv_up_ne (hv_neN hQ.1 nq_34)]; exact hQ.1
  refine hv_putF (ci := 6) (Cn := RX5) (T := TX5) (N := 21) (ref := "DividendDeskModel") (ty := .array .int) (v := .ref q_34) C I fo wX5 tyX5 tyX5_ok nmX5 rfl 14 (by decide) (by decide +kernel) (fun _ h9 => h9) rfl hnm rfl (by decide +kernel) rfl rfl (Nat.le_of_ble_eq_true rfl) dX5_init_101 (fun H locs I => ?_)
  have I : hv_I G h s (hv_up h_35 o (.inr (6, [.int 0, .ref q_1, .ref q_4, .int 0, .ref q_7, .ref q_10, .ref q_13, .ref q_16, .ref q_19, .ref q_22, .int 0, .ref q_25, .ref q_28, .ref q_31, .ref q_34, .null, .null, .null, .null, .long 0, .int 0]))) H locs := I
  obtain ⟨h_36, eh_36⟩ : ∃ z, z = hv_up h_35 o (.inr (6, [.int 0, .ref q_1, .ref q_4, .int 0, .ref q_7, .ref q_10, .ref q_13, .ref q_16, .ref q_19, .ref q_22, .int 0, .ref q_25, .ref q_28, .ref q_31, .ref q_34, .null, .null, .null, .null, .long 0, .int 0])) := ⟨_, rfl⟩
  have I : hv_I G h s h_36 H locs := by rw [eh_36]; exact I
  have fo9 : h_36 o = some (.inr (6, [.int 0, .ref q_1, .ref q_4, .int 0, .ref q_7, .ref q_10, .ref q_13, .ref q_16, .ref q_19, .ref q_22, .int 0, .ref q_25, .ref q_28, .ref q_31, .ref q_34, .null, .null, .null, .null, .long 0, .int 0])) := by rw [eh_36]; exact hv_up_eq
  have fo := fo9
  have hQ := isQ_step (j := 14) hQ nq_34 (by decide) (show h_36 = hv_up (hv_up h_33 q_34 (.inl (G.2.1 0, 800, .inl (fun _ => 0)))) o (.inr (6, [.int 0, .ref q_1, .ref q_4, .int 0, .ref q_7, .ref q_10, .ref q_13, .ref q_16, .ref q_19, .ref q_22, .int 0, .ref q_25, .ref q_28, .ref q_31, .ref q_34, .null, .null, .null, .null, .long 0, .int 0])) by rw [eh_36, eh_35])
  refine lv_aload_n C.1 C.2.1 dX5_init_104 rfl (lv_at hl 0 rfl) ?_
  refine lv_sipush (v := 800) C.1 C.2.1 dX5_init_105 (by decide) ?_
  refine hv_newI (N := 800) C I (by decide +kernel) (by decide) (by decide) (by decide) (Nat.le_of_ble_eq_true rfl) (Nat.le_of_ble_eq_true rfl) dX5_init_108 (fun q_37 H nq_37 I => ?_)
  obtain ⟨h_38, eh_38⟩ : ∃ z, z = hv_up h_36 q_37 (.inl (G.2.1 0, 800, .inl (fun _ => 0))) := ⟨_, rfl⟩
  rw [← eh_38] at I
  have fo : h_38 o = some (.inr (6, [.int 0, .ref q_1, .ref q_4, .int 0, .ref q_7, .ref q_10, .ref q_13, .ref q_16, .ref q_19, .ref q_22, .int 0, .ref q_25, .ref q_28, .ref q_31, .ref q_34, .null, .null, .null, .null, .long 0, .int 0])) := by rw [eh_38, hv_up_ne (hv_neN hQ.1 nq_37)]; exact hQ.1
  refine hv_putF (ci := 6) (Cn := RX5) (T := TX5) (N := 21) (ref := "DividendDeskModel") (ty := .array .int) (v := .ref q_37) C I fo wX5 tyX5 tyX5_ok nmX5 rfl 15 (by decide) (by decide +kernel) (fun _ h9 => h9) rfl hnm rfl (by decide +kernel) rfl rfl (Nat.le_of_ble_eq_true rfl) dX5_init_110 (fun H locs I => ?_)
  have I : hv_I G h s (hv_up h_38 o (.inr (6, [.int 0, .ref q_1, .ref q_4, .int 0, .ref q_7, .ref q_10, .ref q_13, .ref q_16, .ref q_19, .ref q_22, .int 0, .ref q_25, .ref q_28, .ref q_31, .ref q_34, .ref q_37, .null, .null, .null, .long 0, .int 0]))) H locs := I
  obtain ⟨h_39, eh_39⟩ : ∃ z, z = hv_up h_38 o (.inr (6, [.int 0, .ref q_1, .ref q_4, .int 0, .ref q_7, .ref q_10, .ref q_13, .ref q_16, .ref q_19, .ref q_22, .int 0, .ref q_25, .ref q_28, .ref q_31, .ref q_34, .ref q_37, .null, .null, .null, .long 0, .int 0])) := ⟨_, rfl⟩
  have I : hv_I G h s h_39 H locs := by rw [eh_39]; exact I
  have fo9 : h_39 o = some (.inr (6, [.int 0, .ref q_1, .ref q_4, .int 0, .ref q_7, .ref q_10, .ref q_13, .ref q_16, .ref q_19, .ref q_22, .int 0, .ref q_25, .ref q_28, .ref q_31, .ref q_34, .ref q_37, .null, .null, .null, .long 0, .int 0])) := by rw [eh_39]; exact hv_up_eq
  have fo := fo9
  have hQ := isQ_step (j := 15) hQ nq_37 (by decide) (show h_39 = hv_up (hv_up h_36 q_37 (.inl (G.2.1 0, 800, .inl (fun _ => 0)))) o (.inr (6, [.int 0, .ref q_1, .ref q_4, .int 0, .ref q_7, .ref q_10, .ref q_13, .ref q_16, .ref q_19, .ref q_22, .int 0, .ref q_25, .ref q_28, .ref q_31, .ref q_34, .ref q_37, .null, .null, .null, .long 0, .int 0])) by rw [eh_39, eh_38])
  refine lv_aload_n C.1 C.2.1 dX5_init_113 rfl (lv_at hl 0 rfl) ?_
  refine lv_sipush (v := 800) C.1 C.2.1 dX5_init_114 (by decide) ?_
  refine hv_newI (N := 800) C I (by decide +kernel) (by decide) (by decide) (by decide) (Nat.le_of_ble_eq_true rfl) (Nat.le_of_ble_eq_true rfl) dX5_init_117 (fun q_40 H nq_40 I => ?_)
  obtain ⟨h_41, eh_41⟩ : ∃ z, z = hv_up h_39 q_40 (.inl (G.2.1 0, 800, .inl (fun _ => 0))) := ⟨_, rfl⟩
  rw [← eh_41] at I
  have fo : h_41 o = some (.inr (6, [.int 0, .ref q_1, .ref q_4, .int 0, .ref q_7, .ref q_10, .ref q_13, .ref q_16, .ref q_19, .ref q_22, .int 0, .ref q_25, .ref q_28, .ref q_31, .ref q_34, .ref q_37, .null, .null, .null, .long 0, .int 0])) := by rw [eh_41, hv_up_ne (hv_neN hQ.1 nq_40)]; exact hQ.1
  refine hv_putF (ci := 6) (Cn := RX5) (T := TX5) (N := 21) (ref := "DividendDeskModel") (ty := .array .int) (v := .ref q_40) C I fo wX5 tyX5 tyX5_ok nmX5 rfl 16 (by decide) (by decide +kernel) (fun _ h9 => h9) rfl hnm rfl (by decide +kernel) rfl rfl (Nat.le_of_ble_eq_true rfl) dX5_init_119 (fun H locs I => ?_)
  have I : hv_I G h s (hv_up h_41 o (.inr (6, [.int 0, .ref q_1, .ref q_4, .int 0, .ref q_7, .ref q_10, .ref q_13, .ref q_16, .ref q_19, .ref q_22, .int 0, .ref q_25, .ref q_28, .ref q_31, .ref q_34, .ref q_37, .ref q_40, .null, .null, .long 0, .int 0]))) H locs := I
  obtain ⟨h_42, eh_42⟩ : ∃ z, z = hv_up h_41 o (.inr (6, [.int 0, .ref q_1, .ref q_4, .int 0, .ref q_7, .ref q_10, .ref q_13, .ref q_16, .ref q_19, .ref q_22, .int 0, .ref q_25, .ref q_28, .ref q_31, .ref q_34, .ref q_37, .ref q_40, .null, .null, .long 0, .int 0])) := ⟨_, rfl⟩
  have I : hv_I G h s h_42 H locs := by rw [eh_42]; exact I
  have fo9 : h_42 o = some (.inr (6, [.int 0, .ref q_1, .ref q_4, .int 0, .ref q_7, .ref q_10, .ref q_13, .ref q_16, .ref q_19, .ref q_22, .int 0, .ref q_25, .ref q_28, .ref q_31, .ref q_34, .ref q_37, .ref q_40, .null, .null, .long 0, .int 0])) := by rw [eh_42]; exact hv_up_eq
  have fo := fo9
  have hQ := isQ_step (j := 16) hQ nq_40 (by decide) (show h_42 = hv_up (hv_up h_39 q_40 (.inl (G.2.1 0, 800, .inl (fun _ => 0)))) o (.inr (6, [.int 0, .ref q_1, .ref q_4, .int 0, .ref q_7, .ref q_10, .ref q_13, .ref q_16, .ref q_19, .ref q_22, .int 0, .ref q_25, .ref q_28, .ref q_31, .ref q_34, .ref q_37, .ref q_40, .null, .null, .long 0, .int 0])) by rw [eh_42, eh_41])
  refine lv_aload_n C.1 C.2.1 dX5_init_122 rfl (lv_at hl 0 rfl) ?_
  refine lv_sipush (v := 800) C.1 C.2.1 dX5_init_123 (by decide) ?_
  refine hv_newZ (N := 800) C I (by decide +kernel) (by decide) (by decide) (by decide) (Nat.le_of_ble_eq_true rfl) (Nat.le_of_ble_eq_true rfl) dX5_init_126 (fun q_43 H nq_43 I => ?_)
  obtain ⟨h_44, eh_44⟩ : ∃ z, z = hv_up h_42 q_43 (.inl (G.2.1 1, 800, .inl (fun _ => 0))) := ⟨_, rfl⟩
  rw [← eh_44] at I
  have fo : h_44 o = some (.inr (6, [.int 0, .ref q_1, .ref q_4, .int 0, .ref q_7, .ref q_10, .ref q_13, .ref q_16, .ref q_19, .ref q_22, .int 0, .ref q_25, .ref q_28, .ref q_31, .ref q_34, .ref q_37, .ref q_40, .null, .null, .long 0, .int 0])) := by rw [eh_44, hv_up_ne (hv_neN hQ.1 nq_43)]; exact hQ.1
  refine hv_putF (ci := 6) (Cn := RX5) (T := TX5) (N := 21) (ref := "DividendDeskModel") (ty := .array .boolean) (v := .ref q_43) C I fo wX5 tyX5 tyX5_ok nmX5 rfl 17 (by decide) (by decide +kernel) (fun _ h9 => h9) rfl hnm rfl (by decide +kernel) rfl rfl (Nat.le_of_ble_eq_true rfl) dX5_init_128 (fun H locs I => ?_)
  have I : hv_I G h s (hv_up h_44 o (.inr (6, [.int 0, .ref q_1, .ref q_4, .int 0, .ref q_7, .ref q_10, .ref q_13, .ref q_16, .ref q_19, .ref q_22, .int 0, .ref q_25, .ref q_28, .ref q_31, .ref q_34, .ref q_37, .ref q_40, .ref q_43, .null, .long 0, .int 0]))) H locs := I
  obtain ⟨h_45, eh_45⟩ : ∃ z, z = hv_up h_44 o (.inr (6, [.int 0, .ref q_1, .ref q_4, .int 0, .ref q_7, .ref q_10, .ref q_13, .ref q_16, .ref q_19, .ref q_22, .int 0, .ref q_25, .ref q_28, .ref q_31, .ref q_34, .ref q_37, .ref q_40, .ref q_43, .null, .long 0, .int 0])) := ⟨_, rfl⟩
  have I : hv_I G h s h_45 H locs := by rw [eh_45]; exact I
  have fo9 : h_45 o = some (.inr (6, [.int 0, .ref q_1, .ref q_4, .int 0, .ref q_7, .ref q_10, .ref q_13, .ref q_16, .ref q_19, .ref q_22, .int 0, .ref q_25, .ref q_28, .ref q_31, .ref q_34, .ref q_37, .ref q_40, .ref q_43, .null, .long 0, .int 0])) := by rw [eh_45]; exact hv_up_eq
  have fo := fo9
  have hQ := isQ_step (j := 17) hQ nq_43 (by decide) (show h_45 = hv_up (hv_up h_42 q_43 (.inl (G.2.1 1, 800, .inl (fun _ => 0)))) o (.inr (6, [.int 0, .ref q_1, .ref q_4, .int 0, .ref q_7, .ref q_10, .ref q_13, .ref q_16, .ref q_19, .ref q_22, .int 0, .ref q_25, .ref q_28, .ref q_31, .ref q_34, .ref q_37, .ref q_40, .ref q_43, .null, .long 0, .int 0])) by rw [eh_45, eh_44])
  refine lv_aload_n C.1 C.2.1 dX5_init_131 rfl (lv_at hl 0 rfl) ?_
  refine lv_sipush (v := 16000) C.1 C.2.1 dX5_init_132 (by decide) ?_
  refine hv_newI (N := 16000) C I (by decide +kernel) (by decide) (by decide) (by decide) (Nat.le_of_ble_eq_true rfl) (Nat.le_of_ble_eq_true rfl) dX5_init_135 (fun q_46 H nq_46 I => ?_)
  obtain ⟨h_47, eh_47⟩ : ∃ z, z = hv_up h_45 q_46 (.inl (G.2.1 0, 16000, .inl (fun _ => 0))) := ⟨_, rfl⟩
  rw [← eh_47] at I
  have fo : h_47 o = some (.inr (6, [.int 0, .ref q_1, .ref q_4, .int 0, .ref q_7, .ref q_10, .ref q_13, .ref q_16, .ref q_19, .ref q_22, .int 0, .ref q_25, .ref q_28, .ref q_31, .ref q_34, .ref q_37, .ref q_40, .ref q_43, .null, .long 0, .int 0])) := by rw [eh_47, hv_up_ne (hv_neN hQ.1 nq_46)]; exact hQ.1
  refine hv_putF (ci := 6) (Cn := RX5) (T := TX5) (N := 21) (ref := "DividendDeskModel") (ty := .array .int) (v := .ref q_46) C I fo wX5 tyX5 tyX5_ok nmX5 rfl 18 (by decide) (by decide +kernel) (fun _ h9 => h9) rfl hnm rfl (by decide +kernel) rfl rfl (Nat.le_of_ble_eq_true rfl) dX5_init_137 (fun H locs I => ?_)
  have I : hv_I G h s (hv_up h_47 o (.inr (6, [.int 0, .ref q_1, .ref q_4, .int 0, .ref q_7, .ref q_10, .ref q_13, .ref q_16, .ref q_19, .ref q_22, .int 0, .ref q_25, .ref q_28, .ref q_31, .ref q_34, .ref q_37, .ref q_40, .ref q_43, .ref q_46, .long 0, .int 0]))) H locs := I
  obtain ⟨h_48, eh_48⟩ : ∃ z, z = hv_up h_47 o (.inr (6, [.int 0, .ref q_1, .ref q_4, .int 0, .ref q_7, .ref q_10, .ref q_13, .ref q_16, .ref q_19, .ref q_22, .int 0, .ref q_25, .ref q_28, .ref q_31, .ref q_34, .ref q_37, .ref q_40, .ref q_43, .ref q_46, .long 0, .int 0])) := ⟨_, rfl⟩
  have I : hv_I G h s h_48 H locs := by rw [eh_48]; exact I
  have fo9 : h_48 o = some (.inr (6, [.int 0, .ref q_1, .ref q_4, .int 0, .ref q_7, .ref q_10, .ref q_13, .ref q_16, .ref q_19, .ref q_22, .int 0, .ref q_25, .ref q_28, .ref q_31, .ref q_34, .ref q_37, .ref q_40, .ref q_43, .ref q_46, .long 0, .int 0])) := by rw [eh_48]; exact hv_up_eq
  have fo := fo9
  have hQ := isQ_step (j := 18) hQ nq_46 (by decide) (show h_48 = hv_up (hv_up h_45 q_46 (.inl (G.2.1 0, 16000, .inl (fun _ => 0)))) o (.inr (6, [.int 0, .ref q_1, .ref q_4, .int 0, .ref q_7, .ref q_10, .ref q_13, .ref q_16, .ref q_19, .ref q_22, .int 0, .ref q_25, .ref q_28, .ref q_31, .ref q_34, .ref q_37, .ref q_40, .ref q_43, .ref q_46, .long 0, .int 0])) by rw [eh_48, eh_47])
  obtain ⟨ad, hM⟩ : ∃ ad, isM G h_48 o ad 0 0 0 0 0 (fun _ _ => 0) := ⟨_, hQ.1, fun j hj => hQ.2.1 j (mArr_mem j hj), fun i j hi hj e => hQ.2.2 i j (mArr_mem i hi) (mArr_mem j hj) e⟩
  obtain ⟨ar, ear⟩ : ∃ ar : Nat → Nat → Int32, ar = fun _ _ => 0 := ⟨_, rfl⟩
  rw [← ear] at hM
  refine lv_iconst (v := 0) C.1 C.2.1 dX5_init_140 (by decide) ?_
  refine lv_istore_n (lv' := [(1, .int 0), (0, .ref o)]) C.1 C.2.1 dX5_init_141 rfl hl (by decide) rfl (fun ls hl => ?_)
  have loop : ∀ (k9 i : Nat), i ≤ 6 → 6 + 1 ≤ i + k9 → ∀ (h1 : hv) (H : Heap) (locs : List Loc), isM G h1 o ad 0 0 0 0 0 (va_up (va_up ar 1 (filC 30 i)) 2 (filC 30 i)) → hv_I G h s h1 H locs → ∀ ls : Array Slot, lv_has ls 2 [(1, .int (nI i)), (0, .ref o)] → W p l e (hv_rm 1 16 21352 40) s m (([.ref o] : List Value).toArray) below meth c H locs (0 + 1 + 1 + 1 + 1 + 1 + 1 + 1 + 1 + 1 + 1 + 1 + 1 + 1 + 1 + 1 + 1) (0 + 6 + 6 + 20 + 20 + 20 + 20 + 20 + 400 + 40 + 800 + 800 + 800 + 800 + 800 + 800 + 16000) (MQ below (va_Qv (fun u => ∃ ad, isM G u o ad 0 0 0 0 0 arI) (hv_Bq G h s.heap.size) (hv_A h s.heap.size)) (([.ref o] : List Value).toArray) s 16 21352 (hv_A h s.heap.size)) (F0 m 142 ls []) := by
    intro k9
    induction k9 with
    | zero => intro i hi hin; exact absurd hin (by omega)
    | succ k9 ih =>
      intro i hi hin h1 H locs hM I ls hl
      refine lv_iload_n C.1 C.2.1 dX5_init_142 rfl (lv_at hl 0 rfl) ?_
      refine lv_bipush (v := 6) C.1 C.2.1 dX5_init_143 (by decide) ?_
      refine lv_icmp_ge (tgt := 170) C.1 C.2.1 dX5_init_145 (by decide) (fun c145 => ?_) (fun c145 => ?_)
      · have hi145 : i = 6 := Nat.le_antisymm hi (hv_leN (n := 6) (by decide) (by omega) c145)
        have hM : isM G h1 o ad 0 0 0 0 0 (va_up (va_up ar 1 (filC 30 6)) 2 (filC 30 6)) := isM_ar hM (by rw [hi145])
        refine lv_iconst (v := 0) C.1 C.2.1 dX5_init_170 (by decide) ?_
        refine lv_istore_n (lv' := [(1, .int 0), (0, .ref o)]) C.1 C.2.1 dX5_init_171 rfl hl (by decide) rfl (fun ls hl => ?_)
        have loop2 : ∀ (k9 i : Nat), i ≤ 20 → 20 + 1 ≤ i + k9 → ∀ (h1 : hv) (H : Heap) (locs : List Loc), isM G h1 o ad 0 0 0 0 0 (va_up (va_up (va_up (va_up ar 1 (filC 30 6)) 2 (filC 30 6)) 7 (filC (-1) i)) 8 (filC (-1) i)) → hv_I G h s h1 H locs → ∀ ls : Array Slot, lv_has ls 2 [(1, .int (nI i)), (0, .ref o)] → W p l e (hv_rm 1 16 21352 40) s m (([.ref o] : List Value).toArray) below meth c H locs (0 + 1 + 1 + 1 + 1 + 1 + 1 + 1 + 1 + 1 + 1 + 1 + 1 + 1 + 1 + 1 + 1) (0 + 6 + 6 + 20 + 20 + 20 + 20 + 20 + 400 + 40 + 800 + 800 + 800 + 800 + 800 + 800 + 16000) (MQ below (va_Qv (fun u => ∃ ad, isM G u o ad 0 0 0 0 0 arI) (hv_Bq G h s.heap.size) (hv_A h s.heap.size)) (([.ref o] : List Value).toArray) s 16 21352 (hv_A h s.heap.size)) (F0 m 172 ls []) := by
          intro k9
          induction k9 with
          | zero => intro i hi hin; exact absurd hin (by omega)
          | succ k9 ih =>
            intro i hi hin h1 H locs hM I ls hl
            refine lv_iload_n C.1 C.2.1 dX5_init_172 rfl (lv_at hl 0 rfl) ?_
            refine lv_bipush (v := 20) C.1 C.2.1 dX5_init_173 (by decide) ?_
            refine lv_icmp_ge (tgt := 198) C.1 C.2.1 dX5_init_175 (by decide) (fun c175 => ?_) (fun c175 => ?_)
            · have hi175 : i = 20 := Nat.le_antisymm hi (hv_leN (n := 20) (by decide) (by omega) c175)
              have hM : isM G h1 o ad 0 0 0 0 0 (va_up (va_up (va_up (va_up ar 1 (filC 30 6)) 2 (filC 30 6)) 7 (filC (-1) 20)) 8 (filC (-1) 20)) := isM_ar hM (by rw [hi175])
              exact hv_vret C hr I (⟨ad, by rw [ear] at hM; exact hM⟩) dX5_init_198 (Nat.le_of_ble_eq_true rfl) (Nat.le_of_ble_eq_true rfl)
            · have hi175 : i < 20 := hv_ltN (n := 20) (by decide) (by omega) c175
              refine lv_aload_n C.1 C.2.1 dX5_init_178 rfl (lv_at hl 1 rfl) ?_
              refine hv_get (ci := 6) (Cn := RX5) (T := TX5) (N := 21) (ref := "DividendDeskModel") (v := .ref (ad 7)) C I hM.1 wX5 rfl 7 (by decide) (by decide +kernel) (fun _ h9 => h9) rfl dX5_init_179 ?_
              refine lv_iload_n C.1 C.2.1 dX5_init_182 rfl (lv_at hl 0 rfl) ?_
              refine lv_iconst (v := (-1)) C.1 C.2.1 dX5_init_183 (by decide) ?_
              refine hv_iastN (n := 20) (f := (filC (-1) i)) C I (isM_a hM 7 rfl) hi175 (by decide) dX5_init_184 (fun H locs I => ?_)
              obtain ⟨h_49, eh_49⟩ : ∃ z, z = hv_up h1 (ad 7) (.inl (G.2.1 0, 20, .inl (upd (filC (-1) i) i (-1)))) := ⟨_, rfl⟩
              have I : hv_I G h s h_49 H locs := by rw [eh_49]; exact I
              have hM : isM G h_49 o ad 0 0 0 0 0 (va_up (va_up (va_up (va_up (va_up ar 1 (filC 30 6)) 2 (filC 30 6)) 7 (filC (-1) i)) 8 (filC (-1) i)) 7 (upd (filC (-1) i) i (-1))) := isM_st hM 7 rfl eh_49
              refine lv_aload_n C.1 C.2.1 dX5_init_185 rfl (lv_at hl 1 rfl) ?_
              refine hv_get (ci := 6) (Cn := RX5) (T := TX5) (N := 21) (ref := "DividendDeskModel") (v := .ref (ad 8)) C I hM.1 wX5 rfl 8 (by decide) (by decide +kernel) (fun _ h9 => h9) rfl dX5_init_186 ?_
              refine lv_iload_n C.1 C.2.1 dX5_init_189 rfl (lv_at hl 0 rfl) ?_
              refine lv_iconst (v := (-1)) C.1 C.2.1 dX5_init_190 (by decide) ?_
              refine hv_iastN (n := 20) (f := (filC (-1) i)) C I (isM_a hM 8 rfl) hi175 (by decide) dX5_init_191 (fun H locs I => ?_)
              obtain ⟨h_50, eh_50⟩ : ∃ z, z = hv_up h_49 (ad 8) (.inl (G.2.1 0, 20, .inl (upd (filC (-1) i) i (-1)))) := ⟨_, rfl⟩
              have I : hv_I G h s h_50 H locs := by rw [eh_50]; exact I
              have hM : isM G h_50 o ad 0 0 0 0 0 (va_up (va_up (va_up (va_up (va_up (va_up ar 1 (filC 30 6)) 2 (filC 30 6)) 7 (filC (-1) i)) 8 (filC (-1) i)) 7 (upd (filC (-1) i) i (-1))) 8 (upd (filC (-1) i) i (-1))) := isM_st hM 8 rfl eh_50
              refine lv_iinc (v := nI (i + 1)) (lv' := [(1, .int (nI (i + 1))), (0, .ref o)]) C.1 C.2.1 dX5_init_192 hl (k := 0) rfl (nI_1 i) (by decide) rfl (fun ls hl => ?_)
              refine lv_goto (tgt := 172) C.1 C.2.1 dX5_init_195 (by decide) ?_
              exact ih (i + 1) (by omega) (by omega) _ _ _ (isM_ar hM (by rw [va_up_sw _ (by decide), filC_1])) I ls (lv_sub hl [0, 1] rfl)
        exact loop2 (20 + 1) 0 (Nat.zero_le _) (by omega) _ _ _ (isM_ar hM (by rw [filC_0, ear]; funext x; unfold va_up; by_cases c7 : x = 7 <;> by_cases c8 : x = 8 <;> simp [c7, c8])) I ls (lv_sub hl [0, 1] rfl)
      · have hi145 : i < 6 := hv_ltN (n := 6) (by decide) (by omega) c145
        refine lv_aload_n C.1 C.2.1 dX5_init_148 rfl (lv_at hl 1 rfl) ?_
        refine hv_get (ci := 6) (Cn := RX5) (T := TX5) (N := 21) (ref := "DividendDeskModel") (v := .ref (ad 1)) C I hM.1 wX5 rfl 1 (by decide) (by decide +kernel) (fun _ h9 => h9) rfl dX5_init_149 ?_
        refine lv_iload_n C.1 C.2.1 dX5_init_152 rfl (lv_at hl 0 rfl) ?_
        refine lv_bipush (v := 30) C.1 C.2.1 dX5_init_153 (by decide) ?_
        refine hv_iastN (n := 6) (f := (filC 30 i)) C I (isM_a hM 1 rfl) hi145 (by decide) dX5_init_155 (fun H locs I => ?_)
        obtain ⟨h_51, eh_51⟩ : ∃ z, z = hv_up h1 (ad 1) (.inl (G.2.1 0, 6, .inl (upd (filC 30 i) i 30))) := ⟨_, rfl⟩
        have I : hv_I G h s h_51 H locs := by rw [eh_51]; exact I
        have hM : isM G h_51 o ad 0 0 0 0 0 (va_up (va_up (va_up ar 1 (filC 30 i)) 2 (filC 30 i)) 1 (upd (filC 30 i) i 30)) := isM_st hM 1 rfl eh_51
        refine lv_aload_n C.1 C.2.1 dX5_init_156 rfl (lv_at hl 1 rfl) ?_
        refine hv_get (ci := 6) (Cn := RX5) (T := TX5) (N := 21) (ref := "DividendDeskModel") (v := .ref (ad 2)) C I hM.1 wX5 rfl 2 (by decide) (by decide +kernel) (fun _ h9 => h9) rfl dX5_init_157 ?_
        refine lv_iload_n C.1 C.2.1 dX5_init_160 rfl (lv_at hl 0 rfl) ?_
        refine lv_bipush (v := 30) C.1 C.2.1 dX5_init_161 (by decide) ?_
        refine hv_iastN (n := 6) (f := (filC 30 i)) C I (isM_a hM 2 rfl) hi145 (by decide) dX5_init_163 (fun H locs I => ?_)
        obtain ⟨h_52, eh_52⟩ : ∃ z, z = hv_up h_51 (ad 2) (.inl (G.2.1 0, 6, .inl (upd (filC 30 i) i 30))) := ⟨_, rfl⟩
        have I : hv_I G h s h_52 H locs := by rw [eh_52]; exact I
        have hM : isM G h_52 o ad 0 0 0 0 0 (va_up (va_up (va_up (va_up ar 1 (filC 30 i)) 2 (filC 30 i)) 1 (upd (filC 30 i) i 30)) 2 (upd (filC 30 i) i 30)) := isM_st hM 2 rfl eh_52
        refine lv_iinc (v := nI (i + 1)) (lv' := [(1, .int (nI (i + 1))), (0, .ref o)]) C.1 C.2.1 dX5_init_164 hl (k := 0) rfl (nI_1 i) (by decide) rfl (fun ls hl => ?_)
        refine lv_goto (tgt := 142) C.1 C.2.1 dX5_init_167 (by decide) ?_
        exact ih (i + 1) (by omega) (by omega) _ _ _ (isM_ar hM (by rw [va_up_sw _ (by decide), filC_1])) I ls (lv_sub hl [0, 1] rfl)
  exact loop (6 + 1) 0 (Nat.zero_le _) (by omega) _ _ _ (isM_ar hM (by rw [filC_0, show (fun _ => 0 : Nat → Int32) = ar 1 by rw [ear], va_up_id, show ar 1 = ar 2 by rw [ear], va_up_id])) I ls (lv_sub hl [0, 1] rfl)

set_option maxHeartbeats 4000000 in
set_option maxRecDepth 100000 in
theorem c_X4_init (l : Launch) (G : hv_G) (h : hv) (sz : Nat) {a : Nat} (fa : h a = some (.inr (5, [.null, .null, .null, .null, .int 0, .long 0]))) : hv_Mv l yX4_init wsX4_init 4 150 4 18 G h sz [.ref a] (fun u => ∃ ad : Nat → Nat → Nat, a = ad 0 0 ∧ isD G u ad 0 0 0 0 0 (va_up (va_up (fun _ _ => 0) 1 (filC 30 6)) 2 (filC 30 6)) (fun _ => 0) (fun _ => [])) := by
  have wJx4a65c : ∀ w ∈ wsJx4a65c0, w ∈ wsX4_init := by decide +kernel
  have wX4 : ∀ w ∈ wsX40, w ∈ wsX4_init := by decide +kernel
  refine hv_enter (y := yX4_init) (avs := [.ref a]) (maxL := 2) (Qf := fun sz => va_Qv (fun u => ∃ ad : Nat → Nat → Nat, a = ad 0 0 ∧ isD G u ad 0 0 0 0 0 (va_up (va_up (fun _ _ => 0) 1 (filC 30 6)) 2 (filC 30 6)) (fun _ => 0) (fun _ => [])) (hv_Bq G h sz) (hv_A h sz)) (by decide) rfl rfl (Nat.le_of_ble_eq_true rfl) ?_
  intro p e s m below meth c hr hnm C I ls hl
  have hl : lv_has ls 2 [(0, .ref a)] := hl
  refine lv_aload_n C.1 C.2.1 dX4_init_0 rfl (lv_at hl 0 rfl) ?_
  refine W.objInit C.1 C.2.1 C.2.2.2.1 (C.ts (w := .methodLink RX4 1 objectInit) (by decide +kernel)) (C.ts (by decide +kernel)) (C.ts (by decide +kernel)) rfl (by rw [C.2.2.1]; exact hl.1) rfl dX4_init_1 (Nat.le_of_ble_eq_true rfl) (Nat.le_of_ble_eq_true rfl) ?_
  refine W.eq (g2 := F0 m 4 ls []) rfl ?_
  refine lv_aload_n C.1 C.2.1 dX4_init_4 rfl (lv_at hl 0 rfl) ?_
  refine lv_bipush (v := 6) C.1 C.2.1 dX4_init_5 (by decide) ?_
  refine hv_newI (N := 6) C I (by decide +kernel) (by decide) (by decide) (by decide) (Nat.le_of_ble_eq_true rfl) (Nat.le_of_ble_eq_true rfl) dX4_init_7 (fun q_1 H nq_1 I => ?_)
  obtain ⟨h_2, eh_2⟩ : ∃ z, z = hv_up h q_1 (.inl (G.2.1 0, 6, .inl (fun _ => 0))) := ⟨_, rfl⟩
  rw [← eh_2] at I
  have fa9 : h_2 a = some (.inr (5, [.null, .null, .null, .null, .int 0, .long 0])) := by rw [eh_2, hv_up_ne (hv_neN fa nq_1)]; exact fa
  have fa := fa9
  have fq_1 : h_2 q_1 = some (.inl (G.2.1 0, 6, .inl (fun _ => 0))) := by rw [eh_2]; exact hv_up_eq
  refine hv_putF (ci := 5) (Cn := RX4) (T := TX4) (N := 6) (ref := "DividendDesk") (ty := .array .int) (v := .ref q_1) C I fa wX4 tyX4 tyX4_ok nmX4 rfl 0 (by decide) (by decide +kernel) (fun _ h9 => h9) rfl hnm rfl (by decide +kernel) rfl rfl (Nat.le_of_ble_eq_true rfl) dX4_init_9 (fun H locs I => ?_)
  have I : hv_I G h s (hv_up h_2 a (.inr (5, [.ref q_1, .null, .null, .null, .int 0, .long 0]))) H locs := I
  obtain ⟨h_3, eh_3⟩ : ∃ z, z = hv_up h_2 a (.inr (5, [.ref q_1, .null, .null, .null, .int 0, .long 0])) := ⟨_, rfl⟩
  have I : hv_I G h s h_3 H locs := by rw [eh_3]; exact I
  have fa9 : h_3 a = some (.inr (5, [.ref q_1, .null, .null, .null, .int 0, .long 0])) := by rw [eh_3]; exact hv_up_eq
  have fq_19 : h_3 q_1 = some (.inl (G.2.1 0, 6, .inl (fun _ => 0))) := by rw [eh_3, hv_up_ne (hv_neAO fq_1 fa)]; exact fq_1
  have fa := fa9
  have fq_1 := fq_19
  refine lv_aload_n C.1 C.2.1 dX4_init_12 rfl (lv_at hl 0 rfl) ?_
  refine lv_bipush (v := 6) C.1 C.2.1 dX4_init_13 (by decide) ?_
  refine hv_newI (N := 6) C I (by decide +kernel) (by decide) (by decide) (by decide) (Nat.le_of_ble_eq_true rfl) (Nat.le_of_ble_eq_true rfl) dX4_init_15 (fun q_4 H nq_4 I => ?_)
  obtain ⟨h_5, eh_5⟩ : ∃ z, z = hv_up h_3 q_4 (.inl (G.2.1 0, 6, .inl (fun _ => 0))) := ⟨_, rfl⟩
  rw [← eh_5] at I
  have fa9 : h_5 a = some (.inr (5, [.ref q_1, .null, .null, .null, .int 0, .long 0])) := by rw [eh_5, hv_up_ne (hv_neN fa nq_4)]; exact fa
  have ne_fq_1_q_4 : q_1 ≠ q_4 := hv_neN fq_1 nq_4
  have fq_19 : h_5 q_1 = some (.inl (G.2.1 0, 6, .inl (fun _ => 0))) := by rw [eh_5, hv_up_ne (hv_neN fq_1 nq_4)]; exact fq_1
  have fa := fa9
  have fq_1 := fq_19
  have fq_4 : h_5 q_4 = some (.inl (G.2.1 0, 6, .inl (fun _ => 0))) := by rw [eh_5]; exact hv_up_eq
  refine hv_putF (ci := 5) (Cn := RX4) (T := TX4) (N := 6) (ref := "DividendDesk") (ty := .array .int) (v := .ref q_4) C I fa wX4 tyX4 tyX4_ok nmX4 rfl 1 (by decide) (by decide +kernel) (fun _ h9 => h9) rfl hnm rfl (by decide +kernel) rfl rfl (Nat.le_of_ble_eq_true rfl) dX4_init_17 (fun H locs I => ?_)
  have I : hv_I G h s (hv_up h_5 a (.inr (5, [.ref q_1, .ref q_4, .null, .null, .int 0, .long 0]))) H locs := I
  obtain ⟨h_6, eh_6⟩ : ∃ z, z = hv_up h_5 a (.inr (5, [.ref q_1, .ref q_4, .null, .null, .int 0, .long 0])) := ⟨_, rfl⟩
  have I : hv_I G h s h_6 H locs := by rw [eh_6]; exact I
  have fa9 : h_6 a = some (.inr (5, [.ref q_1, .ref q_4, .null, .null, .int 0, .long 0])) := by rw [eh_6]; exact hv_up_eq
  have fq_19 : h_6 q_1 = some (.inl (G.2.1 0, 6, .inl (fun _ => 0))) := by rw [eh_6, hv_up_ne (hv_neAO fq_1 fa)]; exact fq_1
  have fq_49 : h_6 q_4 = some (.inl (G.2.1 0, 6, .inl (fun _ => 0))) := by rw [eh_6, hv_up_ne (hv_neAO fq_4 fa)]; exact fq_4
  have fa := fa9
  have fq_1 := fq_19
  have fq_4 := fq_49
  refine lv_aload_n C.1 C.2.1 dX4_init_20 rfl (lv_at hl 0 rfl) ?_
  refine hv_new (ci := 0) (fs := [.int 0, .null, .int 0]) (Cn := RJx4a65c) (T := TJx4a65c) (N := 3) C I wJx4a65c tyJx4a65c tyJx4a65c_ok (by decide +kernel) (by decide +kernel) (by decide +kernel) rfl (fun j hj => by rcases (show j = 0 ∨ j = 1 ∨ j = 2 by omega) with rfl | rfl | rfl <;> rfl) (Nat.le_of_ble_eq_true rfl) (Nat.le_of_ble_eq_true rfl) dX4_init_21 (fun q_7 H nq_7 I => ?_)
  obtain ⟨h_8, eh_8⟩ : ∃ z, z = hv_up h_6 q_7 (.inr (0, [.int 0, .null, .int 0])) := ⟨_, rfl⟩
  rw [← eh_8] at I
  have fa9 : h_8 a = some (.inr (5, [.ref q_1, .ref q_4, .null, .null, .int 0, .long 0])) := by rw [eh_8, hv_up_ne (hv_neN fa nq_7)]; exact fa
  have fq_19 : h_8 q_1 = some (.inl (G.2.1 0, 6, .inl (fun _ => 0))) := by rw [eh_8, hv_up_ne (hv_neN fq_1 nq_7)]; exact fq_1
  have fq_49 : h_8 q_4 = some (.inl (G.2.1 0, 6, .inl (fun _ => 0))) := by rw [eh_8, hv_up_ne (hv_neN fq_4 nq_7)]; exact fq_4
  have fa := fa9
  have fq_1 := fq_19
  have fq_4 := fq_49
  have fq_7 : h_8 q_7 = some (.inr (0, [.int 0, .null, .int 0])) := by rw [eh_8]; exact hv_up_eq
  refine lv_dup C.1 C.2.1 dX4_init_24 rfl ?_
  refine hv_kv I (va_runI (As := []) (rest := [.ref q_7, .ref a]) C.fix (c_AL_init l G h_8 _ fq_7) (cwI 0 C.2.2.2.2.1 gX4_init_Jx4a65c_init_da8c8 rfl rfl rfl (C.ts (by decide +kernel)) (C.ts (w := .methodLink RX4 18 yJx4a65c_init_da8c8) (by decide +kernel)) (C.ts (by decide +kernel)) rfl (by decide +kernel) ⟨Nat.le_of_ble_eq_true rfl, Nat.le_of_ble_eq_true rfl⟩) (hv_preS C I) rfl rfl hl.1 rfl (lv_room (Nat.le_of_ble_eq_true rfl)) dX4_init_25 ⟨Nat.le_of_ble_eq_true rfl, Nat.le_of_ble_eq_true rfl⟩) (fun u_9 H locs pu_9 I => ?_)
  have fa9 : u_9 a = some (.inr (5, [.ref q_1, .ref q_4, .null, .null, .int 0, .long 0])) := by rw [pu_9, hv_up_ne (hv_neO fa fq_7 (by decide))]; exact fa
  have fq_19 : u_9 q_1 = some (.inl (G.2.1 0, 6, .inl (fun _ => 0))) := by rw [pu_9, hv_up_ne (hv_neAO fq_1 fq_7)]; exact fq_1
  have fq_49 : u_9 q_4 = some (.inl (G.2.1 0, 6, .inl (fun _ => 0))) := by rw [pu_9, hv_up_ne (hv_neAO fq_4 fq_7)]; exact fq_4
  have fq_79 : u_9 q_7 = some (.inr (0, [.int 0, .ref (G.2.2 1), .int 0])) := by rw [pu_9]; exact hv_up_eq
  have fa := fa9
  have fq_1 := fq_19
  have fq_4 := fq_49
  have fq_7 := fq_79
  refine hv_putF (ci := 5) (Cn := RX4) (T := TX4) (N := 6) (ref := "DividendDesk") (ty := .object "java/util/ArrayList") (v := .ref q_7) C I fa wX4 tyX4 tyX4_ok nmX4 rfl 2 (by decide) (by decide +kernel) (fun _ h9 => h9) rfl hnm rfl (by decide +kernel) rfl rfl (Nat.le_of_ble_eq_true rfl) dX4_init_28 (fun H locs I => ?_)
  have I : hv_I G h s (hv_up u_9 a (.inr (5, [.ref q_1, .ref q_4, .ref q_7, .null, .int 0, .long 0]))) H locs := I
  obtain ⟨h_10, eh_10⟩ : ∃ z, z = hv_up u_9 a (.inr (5, [.ref q_1, .ref q_4, .ref q_7, .null, .int 0, .long 0])) := ⟨_, rfl⟩
  have I : hv_I G h s h_10 H locs := by rw [eh_10]; exact I
  have fa9 : h_10 a = some (.inr (5, [.ref q_1, .ref q_4, .ref q_7, .null, .int 0, .long 0])) := by rw [eh_10]; exact hv_up_eq
  have fq_19 : h_10 q_1 = some (.inl (G.2.1 0, 6, .inl (fun _ => 0))) := by rw [eh_10, hv_up_ne (hv_neAO fq_1 fa)]; exact fq_1
  have fq_49 : h_10 q_4 = some (.inl (G.2.1 0, 6, .inl (fun _ => 0))) := by rw [eh_10, hv_up_ne (hv_neAO fq_4 fa)]; exact fq_4
  have fq_79 : h_10 q_7 = some (.inr (0, [.int 0, .ref (G.2.2 1), .int 0])) := by rw [eh_10, hv_up_ne (hv_neO fq_7 fa (by decide))]; exact fq_7
  have fa := fa9
  have fq_1 := fq_19
  have fq_4 := fq_49
  have fq_7 := fq_79
  refine lv_aload_n C.1 C.2.1 dX4_init_31 rfl (lv_at hl 0 rfl) ?_
  refine hv_new (ci := 0) (fs := [.int 0, .null, .int 0]) (Cn := RJx4a65c) (T := TJx4a65c) (N := 3) C I wJx4a65c tyJx4a65c tyJx4a65c_ok (by decide +kernel) (by decide +kernel) (by decide +kernel) rfl (fun j hj => by rcases (show j = 0 ∨ j = 1 ∨ j = 2 by omega) with rfl | rfl | rfl <;> rfl) (Nat.le_of_ble_eq_true rfl) (Nat.le_of_ble_eq_true rfl) dX4_init_32 (fun q_11 H nq_11 I => ?_)
  obtain ⟨h_12, eh_12⟩ : ∃ z, z = hv_up h_10 q_11 (.inr (0, [.int 0, .null, .int 0])) := ⟨_, rfl⟩
  rw [← eh_12] at I
  have fa9 : h_12 a = some (.inr (5, [.ref q_1, .ref q_4, .ref q_7, .null, .int 0, .long 0])) := by rw [eh_12, hv_up_ne (hv_neN fa nq_11)]; exact fa
  have fq_19 : h_12 q_1 = some (.inl (G.2.1 0, 6, .inl (fun _ => 0))) := by rw [eh_12, hv_up_ne (hv_neN fq_1 nq_11)]; exact fq_1
  have fq_49 : h_12 q_4 = some (.inl (G.2.1 0, 6, .inl (fun _ => 0))) := by rw [eh_12, hv_up_ne (hv_neN fq_4 nq_11)]; exact fq_4
  have ne_fq_7_q_11 : q_7 ≠ q_11 := hv_neN fq_7 nq_11
  have fq_79 : h_12 q_7 = some (.inr (0, [.int 0, .ref (G.2.2 1), .int 0])) := by rw [eh_12, hv_up_ne (hv_neN fq_7 nq_11)]; exact fq_7
  have fa := fa9
  have fq_1 := fq_19
  have fq_4 := fq_49
  have fq_7 := fq_79
  have fq_11 : h_12 q_11 = some (.inr (0, [.int 0, .null, .int 0])) := by rw [eh_12]; exact hv_up_eq
  refine lv_dup C.1 C.2.1 dX4_init_35 rfl ?_
  refine hv_kv I (va_runI (As := []) (rest := [.ref q_11, .ref a]) C.fix (c_AL_init l G h_12 _ fq_11) (cwI 0 C.2.2.2.2.1 gX4_init_Jx4a65c_init_da8c8 rfl rfl rfl (C.ts (by decide +kernel)) (C.ts (w := .methodLink RX4 18 yJx4a65c_init_da8c8) (by decide +kernel)) (C.ts (by decide +kernel)) rfl (by decide +kernel) ⟨Nat.le_of_ble_eq_true rfl, Nat.le_of_ble_eq_true rfl⟩) (hv_preS C I) rfl rfl hl.1 rfl (lv_room (Nat.le_of_ble_eq_true rfl)) dX4_init_36 ⟨Nat.le_of_ble_eq_true rfl, Nat.le_of_ble_eq_true rfl⟩) (fun u_13 H locs pu_13 I => ?_)
  have fa9 : u_13 a = some (.inr (5, [.ref q_1, .ref q_4, .ref q_7, .null, .int 0, .long 0])) := by rw [pu_13, hv_up_ne (hv_neO fa fq_11 (by decide))]; exact fa
  have fq_19 : u_13 q_1 = some (.inl (G.2.1 0, 6, .inl (fun _ => 0))) := by rw [pu_13, hv_up_ne (hv_neAO fq_1 fq_11)]; exact fq_1
  have fq_49 : u_13 q_4 = some (.inl (G.2.1 0, 6, .inl (fun _ => 0))) := by rw [pu_13, hv_up_ne (hv_neAO fq_4 fq_11)]; exact fq_4
  have fq_79 : u_13 q_7 = some (.inr (0, [.int 0, .ref (G.2.2 1), .int 0])) := by rw [pu_13, hv_up_ne ne_fq_7_q_11]; exact fq_7
  have fq_119 : u_13 q_11 = some (.inr (0, [.int 0, .ref (G.2.2 1), .int 0])) := by rw [pu_13]; exact hv_up_eq
  have fa := fa9
  have fq_1 := fq_19
  have fq_4 := fq_49
  have fq_7 := fq_79
  have fq_11 := fq_119
  refine hv_putF (ci := 5) (Cn := RX4) (T := TX4) (N := 6) (ref := "DividendDesk") (ty := .object "java/util/ArrayList") (v := .ref q_11) C I fa wX4 tyX4 tyX4_ok nmX4 rfl 3 (by decide) (by decide +kernel) (fun _ h9 => h9) rfl hnm rfl (by decide +kernel) rfl rfl (Nat.le_of_ble_eq_true rfl) dX4_init_39 (fun H locs I => ?_)
  have I : hv_I G h s (hv_up u_13 a (.inr (5, [.ref q_1, .ref q_4, .ref q_7, .ref q_11, .int 0, .long 0]))) H locs := I
  obtain ⟨h_14, eh_14⟩ : ∃ z, z = hv_up u_13 a (.inr (5, [.ref q_1, .ref q_4, .ref q_7, .ref q_11, .int 0, .long 0])) := ⟨_, rfl⟩
  have I : hv_I G h s h_14 H locs := by rw [eh_14]; exact I
  have fa9 : h_14 a = some (.inr (5, [.ref q_1, .ref q_4, .ref q_7, .ref q_11, .int 0, .long 0])) := by rw [eh_14]; exact hv_up_eq
  have fq_19 : h_14 q_1 = some (.inl (G.2.1 0, 6, .inl (fun _ => 0))) := by rw [eh_14, hv_up_ne (hv_neAO fq_1 fa)]; exact fq_1
  have fq_49 : h_14 q_4 = some (.inl (G.2.1 0, 6, .inl (fun _ => 0))) := by rw [eh_14, hv_up_ne (hv_neAO fq_4 fa)]; exact fq_4
  have fq_79 : h_14 q_7 = some (.inr (0, [.int 0, .ref (G.2.2 1), .int 0])) := by rw [eh_14, hv_up_ne (hv_neO fq_7 fa (by decide))]; exact fq_7
  have fq_119 : h_14 q_11 = some (.inr (0, [.int 0, .ref (G.2.2 1), .int 0])) := by rw [eh_14, hv_up_ne (hv_neO fq_11 fa (by decide))]; exact fq_11
  have fa := fa9
  have fq_1 := fq_19
  have fq_4 := fq_49
  have fq_7 := fq_79
  have fq_11 := fq_119
  refine lv_aload_n C.1 C.2.1 dX4_init_42 rfl (lv_at hl 0 rfl) ?_
  refine lv_iconst (v := 0) C.1 C.2.1 dX4_init_43 (by decide) ?_
  refine hv_put (ci := 5) (Cn := RX4) (T := TX4) (N := 6) (ref := "DividendDesk") (ty := .int) (v := .int 0) C I fa wX4 tyX4 tyX4_ok nmX4 rfl 4 (by decide) (by decide +kernel) (fun _ h9 => h9) rfl (by decide +kernel) rfl rfl (Nat.le_of_ble_eq_true rfl) dX4_init_44 (fun H locs I => ?_)
  have I : hv_I G h s (hv_up h_14 a (.inr (5, [.ref q_1, .ref q_4, .ref q_7, .ref q_11, .int 0, .long 0]))) H locs := I
  obtain ⟨h_15, eh_15⟩ : ∃ z, z = hv_up h_14 a (.inr (5, [.ref q_1, .ref q_4, .ref q_7, .ref q_11, .int 0, .long 0])) := ⟨_, rfl⟩
  have I : hv_I G h s h_15 H locs := by rw [eh_15]; exact I
  have fa9 : h_15 a = some (.inr (5, [.ref q_1, .ref q_4, .ref q_7, .ref q_11, .int 0, .long 0])) := by rw [eh_15]; exact hv_up_eq
  have fq_19 : h_15 q_1 = some (.inl (G.2.1 0, 6, .inl (fun _ => 0))) := by rw [eh_15, hv_up_ne (hv_neAO fq_1 fa)]; exact fq_1
  have fq_49 : h_15 q_4 = some (.inl (G.2.1 0, 6, .inl (fun _ => 0))) := by rw [eh_15, hv_up_ne (hv_neAO fq_4 fa)]; exact fq_4
  have fq_79 : h_15 q_7 = some (.inr (0, [.int 0, .ref (G.2.2 1), .int 0])) := by rw [eh_15, hv_up_ne (hv_neO fq_7 fa (by decide))]; exact fq_7
  have fq_119 : h_15 q_11 = some (.inr (0, [.int 0, .ref (G.2.2 1), .int 0])) := by rw [eh_15, hv_up_ne (hv_neO fq_11 fa (by decide))]; exact fq_11
  have fa := fa9
  have fq_1 := fq_19
  have fq_4 := fq_49
  have fq_7 := fq_79
  have fq_11 := fq_119
  refine lv_aload_n C.1 C.2.1 dX4_init_47 rfl (lv_at hl 0 rfl) ?_
  refine lv_lconst (v := 0) C.1 C.2.1 dX4_init_48 (by decide) ?_
  refine hv_put (ci := 5) (Cn := RX4) (T := TX4) (N := 6) (ref := "DividendDesk") (ty := .long) (v := .long 0) C I fa wX4 tyX4 tyX4_ok nmX4 rfl 5 (by decide) (by decide +kernel) (fun _ h9 => h9) rfl (by decide +kernel) rfl rfl (Nat.le_of_ble_eq_true rfl) dX4_init_49 (fun H locs I => ?_)
  have I : hv_I G h s (hv_up h_15 a (.inr (5, [.ref q_1, .ref q_4, .ref q_7, .ref q_11, .int 0, .long 0]))) H locs := I
  obtain ⟨h_16, eh_16⟩ : ∃ z, z = hv_up h_15 a (.inr (5, [.ref q_1, .ref q_4, .ref q_7, .ref q_11, .int 0, .long 0])) := ⟨_, rfl⟩
  have I : hv_I G h s h_16 H locs := by rw [eh_16]; exact I
  have fa9 : h_16 a = some (.inr (5, [.ref q_1, .ref q_4, .ref q_7, .ref q_11, .int 0, .long 0])) := by rw [eh_16]; exact hv_up_eq
  have fq_19 : h_16 q_1 = some (.inl (G.2.1 0, 6, .inl (fun _ => 0))) := by rw [eh_16, hv_up_ne (hv_neAO fq_1 fa)]; exact fq_1
  have fq_49 : h_16 q_4 = some (.inl (G.2.1 0, 6, .inl (fun _ => 0))) := by rw [eh_16, hv_up_ne (hv_neAO fq_4 fa)]; exact fq_4
  have fq_79 : h_16 q_7 = some (.inr (0, [.int 0, .ref (G.2.2 1), .int 0])) := by rw [eh_16, hv_up_ne (hv_neO fq_7 fa (by decide))]; exact fq_7
  have fq_119 : h_16 q_11 = some (.inr (0, [.int 0, .ref (G.2.2 1), .int 0])) := by rw [eh_16, hv_up_ne (hv_neO fq_11 fa (by decide))]; exact fq_11
  have fa := fa9
  have fq_1 := fq_19
  have fq_4 := fq_49
  have fq_7 := fq_79
  have fq_11 := fq_119
  obtain ⟨ad, ea, hD⟩ := isD_init (fm := fun _ => 0) (po := fun _ => []) fa fq_1 fq_4 fq_7 fq_11 ne_fq_1_q_4 ne_fq_7_q_11
  rw [ea] at hl
  obtain ⟨ar, ear⟩ : ∃ ar : Nat → Nat → Int32, ar = fun _ _ => 0 := ⟨_, rfl⟩
  rw [← ear] at hD
  refine lv_iconst (v := 0) C.1 C.2.1 dX4_init_52 (by decide) ?_
  refine lv_istore_n (lv' := [(1, .int 0), (0, .ref (ad 0 0))]) C.1 C.2.1 dX4_init_53 rfl hl (by decide) rfl (fun ls hl => ?_)
  have loop : ∀ (k9 i : Nat), i ≤ 6 → 6 + 1 ≤ i + k9 → ∀ (h1 : hv) (H : Heap) (locs : List Loc), isD G h1 ad 0 0 0 0 0 (va_up (va_up ar 1 (filC 30 i)) 2 (filC 30 i)) (fun _ => 0) (fun _ => []) → hv_I G h s h1 H locs → ∀ ls : Array Slot, lv_has ls 2 [(1, .int (nI i)), (0, .ref (ad 0 0))] → W p l e (hv_rm 4 4 18 150) s m (([.ref a] : List Value).toArray) below meth c H locs (0 + 1 + 1 + 1 + 0 + 1 + 0) (0 + 6 + 6 + 3 + 0 + 3 + 0) (MQ below (va_Qv (fun u => ∃ ad : Nat → Nat → Nat, a = ad 0 0 ∧ isD G u ad 0 0 0 0 0 (va_up (va_up (fun _ _ => 0) 1 (filC 30 6)) 2 (filC 30 6)) (fun _ => 0) (fun _ => [])) (hv_Bq G h s.heap.size) (hv_A h s.heap.size)) (([.ref a] : List Value).toArray) s 4 18 (hv_A h s.heap.size)) (F0 m 54 ls []) := by
    intro k9
    induction k9 with
    | zero => intro i hi hin; exact absurd hin (by omega)
    | succ k9 ih =>
      intro i hi hin h1 H locs hD I ls hl
      refine lv_iload_n C.1 C.2.1 dX4_init_54 rfl (lv_at hl 0 rfl) ?_
      refine lv_bipush (v := 6) C.1 C.2.1 dX4_init_55 (by decide) ?_
      refine lv_icmp_ge (tgt := 82) C.1 C.2.1 dX4_init_57 (by decide) (fun c57 => ?_) (fun c57 => ?_)
      · have hi57 : i = 6 := Nat.le_antisymm hi (hv_leN (n := 6) (by decide) (by omega) c57)
        have hD : isD G h1 ad 0 0 0 0 0 (va_up (va_up ar 1 (filC 30 6)) 2 (filC 30 6)) (fun _ => 0) (fun _ => []) := isD_ar hD (by rw [hi57])
        exact hv_vret C hr I (⟨ad, ea, by rw [ear] at hD; exact hD⟩) dX4_init_82 (Nat.le_of_ble_eq_true rfl) (Nat.le_of_ble_eq_true rfl)
      · have hi57 : i < 6 := hv_ltN (n := 6) (by decide) (by omega) c57
        refine lv_aload_n C.1 C.2.1 dX4_init_60 rfl (lv_at hl 1 rfl) ?_
        refine hv_get (ci := 5) (Cn := RX4) (T := TX4) (N := 6) (ref := "DividendDesk") (v := .ref (ad 1 0)) C I (isD_0 hD) wX4 rfl 0 (by decide) (by decide +kernel) (fun _ h9 => h9) rfl dX4_init_61 ?_
        refine lv_iload_n C.1 C.2.1 dX4_init_64 rfl (lv_at hl 0 rfl) ?_
        refine lv_bipush (v := 30) C.1 C.2.1 dX4_init_65 (by decide) ?_
        refine hv_iastN C I (isD_10 hD) hi57 (by decide) dX4_init_67 (fun H locs I => ?_)
        obtain ⟨h_17, eh_17⟩ : ∃ z, z = hv_up h1 (ad 1 0) (.inl (G.2.1 0, 6, .inl (upd (filC 30 i) i 30))) := ⟨_, rfl⟩
        have I : hv_I G h s h_17 H locs := by rw [eh_17]; exact I
        have hD : isD G h_17 ad 0 0 0 0 0 (va_up (va_up (va_up ar 1 (filC 30 i)) 2 (filC 30 i)) 1 (upd (filC 30 i) i 30)) (fun _ => 0) (fun _ => []) := isD_ge hD eh_17
        refine lv_aload_n C.1 C.2.1 dX4_init_68 rfl (lv_at hl 1 rfl) ?_
        refine hv_get (ci := 5) (Cn := RX4) (T := TX4) (N := 6) (ref := "DividendDesk") (v := .ref (ad 1 1)) C I (isD_0 hD) wX4 rfl 1 (by decide) (by decide +kernel) (fun _ h9 => h9) rfl dX4_init_69 ?_
        refine lv_iload_n C.1 C.2.1 dX4_init_72 rfl (lv_at hl 0 rfl) ?_
        refine lv_bipush (v := 30) C.1 C.2.1 dX4_init_73 (by decide) ?_
        refine hv_iastN C I (isD_11 hD) hi57 (by decide) dX4_init_75 (fun H locs I => ?_)
        obtain ⟨h_18, eh_18⟩ : ∃ z, z = hv_up h_17 (ad 1 1) (.inl (G.2.1 0, 6, .inl (upd (filC 30 i) i 30))) := ⟨_, rfl⟩
        have I : hv_I G h s h_18 H locs := by rw [eh_18]; exact I
        have hD : isD G h_18 ad 0 0 0 0 0 (va_up (va_up (va_up (va_up ar 1 (filC 30 i)) 2 (filC 30 i)) 1 (upd (filC 30 i) i 30)) 2 (upd (filC 30 i) i 30)) (fun _ => 0) (fun _ => []) := isD_la hD eh_18
        refine lv_iinc (v := nI (i + 1)) (lv' := [(1, .int (nI (i + 1))), (0, .ref (ad 0 0))]) C.1 C.2.1 dX4_init_76 hl (k := 0) rfl (nI_1 i) (by decide) rfl (fun ls hl => ?_)
        refine lv_goto (tgt := 54) C.1 C.2.1 dX4_init_79 (by decide) ?_
        exact ih (i + 1) (by omega) (by omega) _ _ _ (isD_ar hD (by rw [va_up_sw _ (by decide), filC_1])) I ls (lv_sub hl [0, 1] rfl)
  exact loop (6 + 1) 0 (Nat.zero_le _) (by omega) _ _ _ (isD_ar hD (by rw [filC_0, show (fun _ => 0 : Nat → Int32) = ar 1 by rw [ear], va_up_id, show ar 1 = ar 2 by rw [ear], va_up_id])) I ls (lv_sub hl [0, 1] rfl)
