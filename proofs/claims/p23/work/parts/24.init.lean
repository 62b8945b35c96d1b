/-! ===== both constructors ===== -/
def filC (c : Int32) (k : Nat) : Nat → Int32 := fun x => if x < k then c else 0
theorem filC_0 (c : Int32) : filC c 0 = fun _ => 0 := by
  funext x
  exact if_neg (Nat.not_lt_zero x)
theorem filC_1 (c : Int32) (k : Nat) : upd (filC c k) k c = filC c (k + 1) := by
  funext x
  unfold upd filC
  by_cases h : x = k
  · subst h
    simp
  · by_cases h2 : x < k
    · rw [if_neg h, if_pos h2, if_pos (by omega)]
    · rw [if_neg h, if_neg h2, if_neg (by omega)]
def arI : Nat → Nat → Int32 := va_up (va_up (va_up (va_up (fun _ _ => 0) 1 (filC 30 6)) 2 (filC 30 6)) 7 (filC (-1) 20)) 8 (filC (-1) 20)
theorem va_up_sw (ar : Nat → Nat → Int32) {i j : Nat} (h : ¬ i = j) (a b a2 b2 : Nat → Int32) : va_up (va_up (va_up (va_up ar i a) j b) i a2) j b2 = va_up (va_up ar i a2) j b2 := by
  funext x
  unfold va_up
  by_cases h1 : x = j
  · simp [h1]
  · by_cases h2 : x = i <;> simp [h1, h2]
def ad0 (a g la lh lp : Nat) : Nat → Nat → Nat := fun k i => if k = 0 then a else if k = 1 then (if i = 0 then g else la) else (if i = 0 then lh else lp)
theorem isD_init {G : hv_G} {h : hv} {a g la lh lp : Nat} {fm : Nat → Int32} {po : Nat → List (Int32 × Int32 × Int32)} (fa : h a = some (.inr (5, [.ref g, .ref la, .ref lh, .ref lp, .int 0, .long 0]))) (fg : h g = some (.inl (G.2.1 0, 6, .inl (fun _ => 0)))) (fl : h la = some (.inl (G.2.1 0, 6, .inl (fun _ => 0)))) (fh : h lh = some (.inr (0, [.int 0, .ref (G.2.2 1), .int 0]))) (fp : h lp = some (.inr (0, [.int 0, .ref (G.2.2 1), .int 0]))) (n1 : ¬ g = la) (n2 : ¬ lh = lp) : ∃ ad, a = ad 0 0 ∧ isD G h ad 0 0 0 0 0 (fun _ _ => 0) fm po := by
  have ag : ¬ a = g := hv_neOA fa fg
  have al : ¬ a = la := hv_neOA fa fl
  have ah : ¬ a = lh := hv_neO fa fh (by decide)
  have ap : ¬ a = lp := hv_neO fa fp (by decide)
  have gh : ¬ g = lh := hv_neAO fg fh
  have gp : ¬ g = lp := hv_neAO fg fp
  have lh2 : ¬ la = lh := hv_neAO fl fh
  have lp2 : ¬ la = lp := hv_neAO fl fp
  have lv : ∀ k i, dLive 0 0 0 ((fun _ _ => 0 : Nat → Nat → Int32) 12) po k i → (k = 0 ∧ i = 0) ∨ (k = 1 ∧ i = 0) ∨ (k = 1 ∧ i = 1) ∨ (k = 2 ∧ i = 0) ∨ (k = 2 ∧ i = 1) := fun k i hl => by
    match k, hl with
    | 0, hl => exact Or.inl ⟨rfl, hl⟩
    | 1, hl =>
      have : i < 2 := hl
      omega
    | 2, hl =>
      have : i < 2 := hl
      omega
    | 3, hl => exact hl.elim (fun z => absurd rfl z.2) (fun z => absurd rfl z.2)
    | 4, hl => exact absurd hl (Nat.not_lt_zero _)
    | 5, hl => exact absurd hl (Nat.not_lt_zero _)
    | 6, hl => exact absurd hl (Nat.not_lt_zero _)
    | 7, hl => exact absurd hl (Nat.not_lt_zero _)
    | 8, hl => exact absurd hl.1 (Nat.not_lt_zero _)
    | 9, hl => exact absurd hl.1.1 (Nat.not_lt_zero _)
    | 10, hl => exact absurd hl.1 (Nat.not_lt_zero _)
    | 11, hl => exact absurd hl.1.1 (Nat.not_lt_zero _)
    | (x + 12), hl => exact hl.elim
  refine ⟨ad0 a g la lh lp, rfl, fun k i hl => ?_, fun k i k2 i2 hl hl2 e => ?_⟩
  · rcases lv k i hl with ⟨rfl, rfl⟩ | ⟨rfl, rfl⟩ | ⟨rfl, rfl⟩ | ⟨rfl, rfl⟩ | ⟨rfl, rfl⟩
    · exact fa
    · exact fg
    · exact fl
    · exact fh
    · exact fp
  · rcases lv k i hl with ⟨rfl, rfl⟩ | ⟨rfl, rfl⟩ | ⟨rfl, rfl⟩ | ⟨rfl, rfl⟩ | ⟨rfl, rfl⟩ <;> rcases lv k2 i2 hl2 with ⟨rfl, rfl⟩ | ⟨rfl, rfl⟩ | ⟨rfl, rfl⟩ | ⟨rfl, rfl⟩ | ⟨rfl, rfl⟩ <;> first | exact ⟨rfl, rfl⟩ | exact absurd e ag | exact absurd e al | exact absurd e ah | exact absurd e ap | exact absurd e.symm ag | exact absurd e.symm al | exact absurd e.symm ah | exact absurd e.symm ap | exact absurd e n1 | exact absurd e.symm n1 | exact absurd e gh | exact absurd e.symm gh | exact absurd e gp | exact absurd e.symm gp | exact absurd e lh2 | exact absurd e.symm lh2 | exact absurd e lp2 | exact absurd e.symm lp2 | exact absurd e n2 | exact absurd e.symm n2
set_option maxHeartbeats 4000000 in
set_option maxRecDepth 100000 in
theorem c_X4_init (l : Launch) (G : hv_G) (h : hv) (sz : Nat) {a : Nat} (fa : h a = some (.inr (5, [.null, .null, .null, .null, .int 0, .long 0]))) : hv_Mv l yX4_init wsX4_init 4 150 4 18 G h sz [.ref a] (fun u => ∃ ad : Nat → Nat → Nat, a = ad 0 0 ∧ isD G u ad 0 0 0 0 0 (va_up (va_up (fun _ _ => 0) 1 (filC 30 6)) 2 (filC 30 6)) (fun _ => 0) (fun _ => [])) := by
  have wJx4a65c : ∀ w ∈ wsJx4a65c0, w ∈ wsX4_init := by decide +kernel
  have wX4 : ∀ w ∈ wsX40, w ∈ wsX4_init := by decide +kernel
  refine hv_enter (y := yX4_init) (avs := [.ref a]) (maxL := 2) (Qf := fun sz => va_Qv (fun u => ∃ ad : Nat → Nat → Nat, a = ad 0 0 ∧ isD G u ad 0 0 0 0 0 (va_up (va_up (fun _ _ => 0) 1 (filC 30 6)) 2 (filC 30 6)) (fun _ => 0) (fun _ => [])) (hv_Bq G h sz) (hv_A h sz)) (by decide) rfl rfl (Nat.le_of_ble_eq_true rfl) ?_
  intro p e s m below meth c hr hnm C I ls hl
  have hl : lv_has ls 2 [(0, .ref a)] := hl
  refine lv_aload_n C.1 C.2.1 dX4_init_0 rfl (lv_at hl 0 rfl) ?_
  refine W.objInit C.1 C.2.1 C.2.2.2.1 (C.ts (w := .methodLink RX4 1 objectInit) (by decide +kernel)) (C.ts (by decide +kernel)) (C.ts (by decide +kernel)) rfl (by rw [C.2.2.1]; exact hl.1) rfl dX4_init_1 (Nat.le_of_ble_eq_true rfl) (Nat.le_of_ble_eq_true rfl) ?_
  refine W.eq (g2 := F0 m 4 ls []) rfl ?_
  refine lv_aload_n C.1 C.2.1 dX4_init_4 rfl (lv_at hl 0 rfl) ?_
  refine lv_bipush (v := 6) C.1 C.2.1 dX4_init_5 (by decide) ?_
  refine hv_newI (N := 6) C I (by decide +kernel) (by decide) (by decide) (by decide) (Nat.le_of_ble_eq_true rfl) (Nat.le_of_ble_eq_true rfl) dX4_init_7 (fun q_1 H nq_1 I => ?_)
  obtain ⟨h_2, eh_2⟩ : ∃ z, z = hv_up h q_1 (.inl (G.2.1 0, 6, .inl (fun _ => 0))) := ⟨_, rfl⟩
  rw [← eh_2] at I
  have fa9 : h_2 a = some (.inr (5, [.null, .null, .null, .null, .int 0, .long 0])) := by rw [eh_2, hv_up_ne (hv_neN fa nq_1)]; exact fa
  have fa := fa9
  have fq_1 : h_2 q_1 = some (.inl (G.2.1 0, 6, .inl (fun _ => 0))) := by rw [eh_2]; exact hv_up_eq
  refine hv_putF (ci := 5) (Cn := RX4) (T := TX4) (N := 6) (ref := "DividendDesk") (ty := .array .int) (v := .ref q_1) C I fa wX4 tyX4 tyX4_ok nmX4 rfl 0 (by decide) (by decide +kernel) (fun _ h9 => h9) rfl hnm rfl (by decide +kernel) rfl rfl (Nat.le_of_ble_eq_true rfl) dX4_init_9 (fun H locs I => ?_)
  have I : hv_I G h s (hv_up h_2 a (.inr (5, [.ref q_1, .null, .null, .null, .int 0, .long 0]))) H locs := I
  obtain ⟨h_3, eh_3⟩ : ∃ z, z = hv_up h_2 a (.inr (5, [.ref q_1, .null, .null, .null, .int 0, .long 0])) := ⟨_, rfl⟩
  have I : hv_I G h s h_3 H locs := by rw [eh_3]; exact I
  have fa9 : h_3 a = some (.inr (5, [.ref q_1, .null, .null, .null, .int 0, .long 0])) := by rw [eh_3]; exact hv_up_eq
  have fq_19 : h_3 q_1 = some (.inl (G.2.1 0, 6, .inl (fun _ => 0))) := by rw [eh_3, hv_up_ne (hv_neAO fq_1 fa)]; exact fq_1
  have fa := fa9
  have fq_1 := fq_19
  refine lv_aload_n C.1 C.2.1 dX4_init_12 rfl (lv_at hl 0 rfl) ?_
  refine lv_bipush (v := 6) C.1 C.2.1 dX4_init_13 (by decide) ?_
  refine hv_newI (N := 6) C I (by decide +kernel) (by decide) (by decide) (by decide) (Nat.le_of_ble_eq_true rfl) (Nat.le_of_ble_eq_true rfl) dX4_init_15 (fun q_4 H nq_4 I => ?_)
  obtain ⟨h_5, eh_5⟩ : ∃ z, z = hv_up h_3 q_4 (.inl (G.2.1 0, 6, .inl (fun _ => 0))) := ⟨_, rfl⟩
  rw [← eh_5] at I
  have fa9 : h_5 a = some (.inr (5, [.ref q_1, .null, .null, .null, .int 0, .long 0])) := by rw [eh_5, hv_up_ne (hv_neN fa nq_4)]; exact fa
  have ne_fq_1_q_4 : q_1 ≠ q_4 := hv_neN fq_1 nq_4
  have fq_19 : h_5 q_1 = some (.inl (G.2.1 0, 6, .inl (fun _ => 0))) := by rw [eh_5, hv_up_ne (hv_neN fq_1 nq_4)]; exact fq_1
  have fa := fa9
  have fq_1 := fq_19
  have fq_4 : h_5 q_4 = some (.inl (G.2.1 0, 6, .inl (fun _ => 0))) := by rw [eh_5]; exact hv_up_eq
  refine hv_putF (ci := 5) (Cn := RX4) (T := TX4) (N := 6) (ref := "DividendDesk") (ty := .array .int) (v := .ref q_4) C I fa wX4 tyX4 tyX4_ok nmX4 rfl 1 (by decide) (by decide +kernel) (fun _ h9 => h9) rfl hnm rfl (by decide +kernel) rfl rfl (Nat.le_of_ble_eq_true rfl) dX4_init_17 (fun H locs I => ?_)
  have I : hv_I G h s (hv_up h_5 a (.inr (5, [.ref q_1, .ref q_4, .null, .null, .int 0, .long 0]))) H locs := I
  obtain ⟨h_6, eh_6⟩ : ∃ z, z = hv_up h_5 a (.inr (5, [.ref q_1, .ref q_4, .null, .null, .int 0, .long 0])) := ⟨_, rfl⟩
  have I : hv_I G h s h_6 H locs := by rw [eh_6]; exact I
  have fa9 : h_6 a = some (.inr (5, [.ref q_1, .ref q_4, .null, .null, .int 0, .long 0])) := by rw [eh_6]; exact hv_up_eq
  have fq_19 : h_6 q_1 = some (.inl (G.2.1 0, 6, .inl (fun _ => 0))) := by rw [eh_6, hv_up_ne (hv_neAO fq_1 fa)]; exact fq_1
  have fq_49 : h_6 q_4 = some (.inl (G.2.1 0, 6, .inl (fun _ => 0))) := by rw [eh_6, hv_up_ne (hv_neAO fq_4 fa)]; exact fq_4
  have fa := fa9
  have fq_1 := fq_19
  have fq_4 := fq_49
  refine lv_aload_n C.1 C.2.1 dX4_init_20 rfl (lv_at hl 0 rfl) ?_
  refine hv_new (ci := 0) (fs := [.int 0, .null, .int 0]) (Cn := RJx4a65c) (T := TJx4a65c) (N := 3) C I wJx4a65c tyJx4a65c tyJx4a65c_ok (by decide +kernel) (by decide +kernel) (by decide +kernel) rfl (fun j hj => by rcases (show j = 0 ∨ j = 1 ∨ j = 2 by omega) with rfl | rfl | rfl <;> rfl) (Nat.le_of_ble_eq_true rfl) (Nat.le_of_ble_eq_true rfl) dX4_init_21 (fun q_7 H nq_7 I => ?_)
  obtain ⟨h_8, eh_8⟩ : ∃ z, z = hv_up h_6 q_7 (.inr (0, [.int 0, .null, .int 0])) := ⟨_, rfl⟩
  rw [← eh_8] at I
  have fa9 : h_8 a = some (.inr (5, [.ref q_1, .ref q_4, .null, .null, .int 0, .long 0])) := by rw [eh_8, hv_up_ne (hv_neN fa nq_7)]; exact fa
  have fq_19 : h_8 q_1 = some (.inl (G.2.1 0, 6, .inl (fun _ => 0))) := by rw [eh_8, hv_up_ne (hv_neN fq_1 nq_7)]; exact fq_1
  have fq_49 : h_8 q_4 = some (.inl (G.2.1 0, 6, .inl (fun _ => 0))) := by rw [eh_8, hv_up_ne (hv_neN fq_4 nq_7)]; exact fq_4
  have fa := fa9
  have fq_1 := fq_19
  have fq_4 := fq_49
  have fq_7 : h_8 q_7 = some (.inr (0, [.int 0, .null, .int 0])) := by rw [eh_8]; exact hv_up_eq
  refine lv_dup C.1 C.2.1 dX4_init_24 rfl ?_
  refine hv_kv I (va_runI (As := []) (rest := [.ref q_7, .ref a]) C.fix (c_AL_init l G h_8 _ fq_7) (cwI 0 C.2.2.2.2.1 gX4_init_Jx4a65c_init_da8c8 rfl rfl rfl (C.ts (by decide +kernel)) (C.ts (w := .methodLink RX4 18 yJx4a65c_init_da8c8) (by decide +kernel)) (C.ts (by decide +kernel)) rfl (by decide +kernel) ⟨Nat.le_of_ble_eq_true rfl, Nat.le_of_ble_eq_true rfl⟩) (hv_preS C I) rfl rfl hl.1 rfl (lv_room (Nat.le_of_ble_eq_true rfl)) dX4_init_25 ⟨Nat.le_of_ble_eq_true rfl, Nat.le_of_ble_eq_true rfl⟩) (fun u_9 H locs pu_9 I => ?_)
  have fa9 : u_9 a = some (.inr (5, [.ref q_1, .ref q_4, .null, .null, .int 0, .long 0])) := by rw [pu_9, hv_up_ne (hv_neO fa fq_7 (by decide))]; exact fa
  have fq_19 : u_9 q_1 = some (.inl (G.2.1 0, 6, .inl (fun _ => 0))) := by rw [pu_9, hv_up_ne (hv_neAO fq_1 fq_7)]; exact fq_1
  have fq_49 : u_9 q_4 = some (.inl (G.2.1 0, 6, .inl (fun _ => 0))) := by rw [pu_9, hv_up_ne (hv_neAO fq_4 fq_7)]; exact fq_4
  have fq_79 : u_9 q_7 = some (.inr (0, [.int 0, .ref (G.2.2 1), .int 0])) := by rw [pu_9]; exact hv_up_eq
  have fa := fa9
  have fq_1 := fq_19
  have fq_4 := fq_49
  have fq_7 := fq_79
  refine hv_putF (ci := 5) (Cn := RX4) (T := TX4) (N := 6) (ref := "DividendDesk") (ty := .object "java/util/ArrayList") (v := .ref q_7) C I fa wX4 tyX4 tyX4_ok nmX4 rfl 2 (by decide) (by decide +kernel) (fun _ h9 => h9) rfl hnm rfl (by decide +kernel) rfl rfl (Nat.le_of_ble_eq_true rfl) dX4_init_28 (fun H locs I => ?_)
  have I : hv_I G h s (hv_up u_9 a (.inr (5, [.ref q_1, .ref q_4, .ref q_7, .null, .int 0, .long 0]))) H locs := I
  obtain ⟨h_10, eh_10⟩ : ∃ z, z = hv_up u_9 a (.inr (5, [.ref q_1, .ref q_4, .ref q_7, .null, .int 0, .long 0])) := ⟨_, rfl⟩
  have I : hv_I G h s h_10 H locs := by rw [eh_10]; exact I
  have fa9 : h_10 a = some (.inr (5, [.ref q_1, .ref q_4, .ref q_7, .null, .int 0, .long 0])) := by rw [eh_10]; exact hv_up_eq
  have fq_19 : h_10 q_1 = some (.inl (G.2.1 0, 6, .inl (fun _ => 0))) := by rw [eh_10, hv_up_ne (hv_neAO fq_1 fa)]; exact fq_1
  have fq_49 : h_10 q_4 = some (.inl (G.2.1 0, 6, .inl (fun _ => 0))) := by rw [eh_10, hv_up_ne (hv_neAO fq_4 fa)]; exact fq_4
  have fq_79 : h_10 q_7 = some (.inr (0, [.int 0, .ref (G.2.2 1), .int 0])) := by rw [eh_10, hv_up_ne (hv_neO fq_7 fa (by decide))]; exact fq_7
  have fa := fa9
  have fq_1 := fq_19
  have fq_4 := fq_49
  have fq_7 := fq_79
  refine lv_aload_n C.1 C.2.1 dX4_init_31 rfl (lv_at hl 0 rfl) ?_
  refine hv_new (ci := 0) (fs := [.int 0, .null, .int 0]) (Cn := RJx4a65c) (T := TJx4a65c) (N := 3) C I wJx4a65c tyJx4a65c tyJx4a65c_ok (by decide +kernel) (by decide +kernel) (by decide +kernel) rfl (fun j hj => by rcases (show j = 0 ∨ j = 1 ∨ j = 2 by omega) with rfl | rfl | rfl <;> rfl) (Nat.le_of_ble_eq_true rfl) (Nat.le_of_ble_eq_true rfl) dX4_init_32 (fun q_11 H nq_11 I => ?_)
  obtain ⟨h_12, eh_12⟩ : ∃ z, z = hv_up h_10 q_11 (.inr (0, [.int 0, .null, .int 0])) := ⟨_, rfl⟩
  rw [← eh_12] at I
  have fa9 : h_12 a = some (.inr (5, [.ref q_1, .ref q_4, .ref q_7, .null, .int 0, .long 0])) := by rw [eh_12, hv_up_ne (hv_neN fa nq_11)]; exact fa
  have fq_19 : h_12 q_1 = some (.inl (G.2.1 0, 6, .inl (fun _ => 0))) := by rw [eh_12, hv_up_ne (hv_neN fq_1 nq_11)]; exact fq_1
  have fq_49 : h_12 q_4 = some (.inl (G.2.1 0, 6, .inl (fun _ => 0))) := by rw [eh_12, hv_up_ne (hv_neN fq_4 nq_11)]; exact fq_4
  have ne_fq_7_q_11 : q_7 ≠ q_11 := hv_neN fq_7 nq_11
  have fq_79 : h_12 q_7 = some (.inr (0, [.int 0, .ref (G.2.2 1), .int 0])) := by rw [eh_12, hv_up_ne (hv_neN fq_7 nq_11)]; exact fq_7
  have fa := fa9
  have fq_1 := fq_19
  have fq_4 := fq_49
  have fq_7 := fq_79
  have fq_11 : h_12 q_11 = some (.inr (0, [.int 0, .null, .int 0])) := by rw [eh_12]; exact hv_up_eq
  refine lv_dup C.1 C.2.1 dX4_init_35 rfl ?_
  refine hv_kv I (va_runI (As := []) (rest := [.ref q_11, .ref a]) C.fix (c_AL_init l G h_12 _ fq_11) (cwI 0 C.2.2.2.2.1 gX4_init_Jx4a65c_init_da8c8 rfl rfl rfl (C.ts (by decide +kernel)) (C.ts (w := .methodLink RX4 18 yJx4a65c_init_da8c8) (by decide +kernel)) (C.ts (by decide +kernel)) rfl (by decide +kernel) ⟨Nat.le_of_ble_eq_true rfl, Nat.le_of_ble_eq_true rfl⟩) (hv_preS C I) rfl rfl hl.1 rfl (lv_room (Nat.le_of_ble_eq_true rfl)) dX4_init_36 ⟨Nat.le_of_ble_eq_true rfl, Nat.le_of_ble_eq_true rfl⟩) (fun u_13 H locs pu_13 I => ?_)
  have fa9 : u_13 a = some (.inr (5, [.ref q_1, .ref q_4, .ref q_7, .null, .int 0, .long 0])) := by rw [pu_13, hv_up_ne (hv_neO fa fq_11 (by decide))]; exact fa
  have fq_19 : u_13 q_1 = some (.inl (G.2.1 0, 6, .inl (fun _ => 0))) := by rw [pu_13, hv_up_ne (hv_neAO fq_1 fq_11)]; exact fq_1
  have fq_49 : u_13 q_4 = some (.inl (G.2.1 0, 6, .inl (fun _ => 0))) := by rw [pu_13, hv_up_ne (hv_neAO fq_4 fq_11)]; exact fq_4
  have fq_79 : u_13 q_7 = some (.inr (0, [.int 0, .ref (G.2.2 1), .int 0])) := by rw [pu_13, hv_up_ne ne_fq_7_q_11]; exact fq_7
  have fq_119 : u_13 q_11 = some (.inr (0, [.int 0, .ref (G.2.2 1), .int 0])) := by rw [pu_13]; exact hv_up_eq
  have fa := fa9
  have fq_1 := fq_19
  have fq_4 := fq_49
  have fq_7 := fq_79
  have fq_11 := fq_119
  refine hv_putF (ci := 5) (Cn := RX4) (T := TX4) (N := 6) (ref := "DividendDesk") (ty := .object "java/util/ArrayList") (v := .ref q_11) C I fa wX4 tyX4 tyX4_ok nmX4 rfl 3 (by decide) (by decide +kernel) (fun _ h9 => h9) rfl hnm rfl (by decide +kernel) rfl rfl (Nat.le_of_ble_eq_true rfl) dX4_init_39 (fun H locs I => ?_)
  have I : hv_I G h s (hv_up u_13 a (.inr (5, [.ref q_1, .ref q_4, .ref q_7, .ref q_11, .int 0, .long 0]))) H locs := I
  obtain ⟨h_14, eh_14⟩ : ∃ z, z = hv_up u_13 a (.inr (5, [.ref q_1, .ref q_4, .ref q_7, .ref q_11, .int 0, .long 0])) := ⟨_, rfl⟩
  have I : hv_I G h s h_14 H locs := by rw [eh_14]; exact I
  have fa9 : h_14 a = some (.inr (5, [.ref q_1, .ref q_4, .ref q_7, .ref q_11, .int 0, .long 0])) := by rw [eh_14]; exact hv_up_eq
  have fq_19 : h_14 q_1 = some (.inl (G.2.1 0, 6, .inl (fun _ => 0))) := by rw [eh_14, hv_up_ne (hv_neAO fq_1 fa)]; exact fq_1
  have fq_49 : h_14 q_4 = some (.inl (G.2.1 0, 6, .inl (fun _ => 0))) := by rw [eh_14, hv_up_ne (hv_neAO fq_4 fa)]; exact fq_4
  have fq_79 : h_14 q_7 = some (.inr (0, [.int 0, .ref (G.2.2 1), .int 0])) := by rw [eh_14, hv_up_ne (hv_neO fq_7 fa (by decide))]; exact fq_7
  have fq_119 : h_14 q_11 = some (.inr (0, [.int 0, .ref (G.2.2 1), .int 0])) := by rw [eh_14, hv_up_ne (hv_neO fq_11 fa (by decide))]; exact fq_11
  have fa := fa9
  have fq_1 := fq_19
  have fq_4 := fq_49
  have fq_7 := fq_79
  have fq_11 := fq_119
  refine lv_aload_n C.1 C.2.1 dX4_init_42 rfl (lv_at hl 0 rfl) ?_
  refine lv_iconst (v := 0) C.1 C.2.1 dX4_init_43 (by decide) ?_
  refine hv_put (ci := 5) (Cn := RX4) (T := TX4) (N := 6) (ref := "DividendDesk") (ty := .int) (v := .int 0) C I fa wX4 tyX4 tyX4_ok nmX4 rfl 4 (by decide) (by decide +kernel) (fun _ h9 => h9) rfl (by decide +kernel) rfl rfl (Nat.le_of_ble_eq_true rfl) dX4_init_44 (fun H locs I => ?_)
  have I : hv_I G h s (hv_up h_14 a (.inr (5, [.ref q_1, .ref q_4, .ref q_7, .ref q_11, .int 0, .long 0]))) H locs := I
  obtain ⟨h_15, eh_15⟩ : ∃ z, z = hv_up h_14 a (.inr (5, [.ref q_1, .ref q_4, .ref q_7, .ref q_11, .int 0, .long 0])) := ⟨_, rfl⟩
  have I : hv_I G h s h_15 H locs := by rw [eh_15]; exact I
  have fa9 : h_15 a = some (.inr (5, [.ref q_1, .ref q_4, .ref q_7, .ref q_11, .int 0, .long 0])) := by rw [eh_15]; exact hv_up_eq
  have fq_19 : h_15 q_1 = some (.inl (G.2.1 0, 6, .inl (fun _ => 0))) := by rw [eh_15, hv_up_ne (hv_neAO fq_1 fa)]; exact fq_1
  have fq_49 : h_15 q_4 = some (.inl (G.2.1 0, 6, .inl (fun _ => 0))) := by rw [eh_15, hv_up_ne (hv_neAO fq_4 fa)]; exact fq_4
  have fq_79 : h_15 q_7 = some (.inr (0, [.int 0, .ref (G.2.2 1), .int 0])) := by rw [eh_15, hv_up_ne (hv_neO fq_7 fa (by decide))]; exact fq_7
  have fq_119 : h_15 q_11 = some (.inr (0, [.int 0, .ref (G.2.2 1), .int 0])) := by rw [eh_15, hv_up_ne (hv_neO fq_11 fa (by decide))]; exact fq_11
  have fa := fa9
  have fq_1 := fq_19
  have fq_4 := fq_49
  have fq_7 := fq_79
  have fq_11 := fq_119
  refine lv_aload_n C.1 C.2.1 dX4_init_47 rfl (lv_at hl 0 rfl) ?_
  refine lv_lconst (v := 0) C.1 C.2.1 dX4_init_48 (by decide) ?_
  refine hv_put (ci := 5) (Cn := RX4) (T := TX4) (N := 6) (ref := "DividendDesk") (ty := .long) (v := .long 0) C I fa wX4 tyX4 tyX4_ok nmX4 rfl 5 (by decide) (by decide +kernel) (fun _ h9 => h9) rfl (by decide +kernel) rfl rfl (Nat.le_of_ble_eq_true rfl) dX4_init_49 (fun H locs I => ?_)
  have I : hv_I G h s (hv_up h_15 a (.inr (5, [.ref q_1, .ref q_4, .ref q_7, .ref q_11, .int 0, .long 0]))) H locs := I
  obtain ⟨h_16, eh_16⟩ : ∃ z, z = hv_up h_15 a (.inr (5, [.ref q_1, .ref q_4, .ref q_7, .ref q_11, .int 0, .long 0])) := ⟨_, rfl⟩
  have I : hv_I G h s h_16 H locs := by rw [eh_16]; exact I
  have fa9 : h_16 a = some (.inr (5, [.ref q_1, .ref q_4, .ref q_7, .ref q_11, .int 0, .long 0])) := by rw [eh_16]; exact hv_up_eq
  have fq_19 : h_16 q_1 = some (.inl (G.2.1 0, 6, .inl (fun _ => 0))) := by rw [eh_16, hv_up_ne (hv_neAO fq_1 fa)]; exact fq_1
  have fq_49 : h_16 q_4 = some (.inl (G.2.1 0, 6, .inl (fun _ => 0))) := by rw [eh_16, hv_up_ne (hv_neAO fq_4 fa)]; exact fq_4
  have fq_79 : h_16 q_7 = some (.inr (0, [.int 0, .ref (G.2.2 1), .int 0])) := by rw [eh_16, hv_up_ne (hv_neO fq_7 fa (by decide))]; exact fq_7
  have fq_119 : h_16 q_11 = some (.inr (0, [.int 0, .ref (G.2.2 1), .int 0])) := by rw [eh_16, hv_up_ne (hv_neO fq_11 fa (by decide))]; exact fq_11
  have fa := fa9
  have fq_1 := fq_19
  have fq_4 := fq_49
  have fq_7 := fq_79
  have fq_11 := fq_119
  obtain ⟨ad, ea, hD⟩ := isD_init (fm := fun _ => 0) (po := fun _ => []) fa fq_1 fq_4 fq_7 fq_11 ne_fq_1_q_4 ne_fq_7_q_11
  rw [ea] at hl
  obtain ⟨ar, ear⟩ : ∃ ar : Nat → Nat → Int32, ar = fun _ _ => 0 := ⟨_, rfl⟩
  rw [← ear] at hD
  refine lv_iconst (v := 0) C.1 C.2.1 dX4_init_52 (by decide) ?_
  refine lv_istore_n (lv' := [(1, .int 0), (0, .ref (ad 0 0))]) C.1 C.2.1 dX4_init_53 rfl hl (by decide) rfl (fun ls hl => ?_)
  have loop : ∀ (k9 i : Nat), i ≤ 6 → 6 + 1 ≤ i + k9 → ∀ (h1 : hv) (H : Heap) (locs : List Loc), isD G h1 ad 0 0 0 0 0 (va_up (va_up ar 1 (filC 30 i)) 2 (filC 30 i)) (fun _ => 0) (fun _ => []) → hv_I G h s h1 H locs → ∀ ls : Array Slot, lv_has ls 2 [(1, .int (nI i)), (0, .ref (ad 0 0))] → W p l e (hv_rm 4 4 18 150) s m (([.ref a] : List Value).toArray) below meth c H locs (0 + 1 + 1 + 1 + 0 + 1 + 0) (0 + 6 + 6 + 3 + 0 + 3 + 0) (MQ below (va_Qv (fun u => ∃ ad : Nat → Nat → Nat, a = ad 0 0 ∧ isD G u ad 0 0 0 0 0 (va_up (va_up (fun _ _ => 0) 1 (filC 30 6)) 2 (filC 30 6)) (fun _ => 0) (fun _ => [])) (hv_Bq G h s.heap.size) (hv_A h s.heap.size)) (([.ref a] : List Value).toArray) s 4 18 (hv_A h s.heap.size)) (F0 m 54 ls []) := by
    intro k9
    induction k9 with
    | zero => intro i hi hin; exact absurd hin (by omega)
    | succ k9 ih =>
      intro i hi hin h1 H locs hD I ls hl
      refine lv_iload_n C.1 C.2.1 dX4_init_54 rfl (lv_at hl 0 rfl) ?_
      refine lv_bipush (v := 6) C.1 C.2.1 dX4_init_55 (by decide) ?_
      refine lv_icmp_ge (tgt := 82) C.1 C.2.1 dX4_init_57 (by decide) (fun c57 => ?_) (fun c57 => ?_)
      · have hi57 : i = 6 := Nat.le_antisymm hi (hv_leN (n := 6) (by decide) (by omega) c57)
        have hD : isD G h1 ad 0 0 0 0 0 (va_up (va_up ar 1 (filC 30 6)) 2 (filC 30 6)) (fun _ => 0) (fun _ => []) := isD_ar hD (by rw [hi57])
        exact hv_vret C hr I (⟨ad, ea, by rw [ear] at hD; exact hD⟩) dX4_init_82 (Nat.le_of_ble_eq_true rfl) (Nat.le_of_ble_eq_true rfl)
      · have hi57 : i < 6 := hv_ltN (n := 6) (by decide) (by omega) c57
        refine lv_aload_n C.1 C.2.1 dX4_init_60 rfl (lv_at hl 1 rfl) ?_
        refine hv_get (ci := 5) (Cn := RX4) (T := TX4) (N := 6) (ref := "DividendDesk") (v := .ref (ad 1 0)) C I (isD_0 hD) wX4 rfl 0 (by decide) (by decide +kernel) (fun _ h9 => h9) rfl dX4_init_61 ?_
        refine lv_iload_n C.1 C.2.1 dX4_init_64 rfl (lv_at hl 0 rfl) ?_
        refine lv_bipush (v := 30) C.1 C.2.1 dX4_init_65 (by decide) ?_
        refine hv_iastN C I (isD_10 hD) hi57 (by decide) dX4_init_67 (fun H locs I => ?_)
        obtain ⟨h_17, eh_17⟩ : ∃ z, z = hv_up h1 (ad 1 0) (.inl (G.2.1 0, 6, .inl (upd (filC 30 i) i 30))) := ⟨_, rfl⟩
        have I : hv_I G h s h_17 H locs := by rw [eh_17]; exact I
        have hD : isD G h_17 ad 0 0 0 0 0 (va_up (va_up (va_up ar 1 (filC 30 i)) 2 (filC 30 i)) 1 (upd (filC 30 i) i 30)) (fun _ => 0) (fun _ => []) := isD_ge hD eh_17
        refine lv_aload_n C.1 C.2.1 dX4_init_68 rfl (lv_at hl 1 rfl) ?_
        refine hv_get (ci := 5) (Cn := RX4) (T := TX4) (N := 6) (ref := "DividendDesk") (v := .ref (ad 1 1)) C I (isD_0 hD) wX4 rfl 1 (by decide) (by decide +kernel) (fun _ h9 => h9) rfl dX4_init_69 ?_
        refine lv_iload_n C.1 C.2.1 dX4_init_72 rfl (lv_at hl 0 rfl) ?_
        refine lv_bipush (v := 30) C.1 C.2.1 dX4_init_73 (by decide) ?_
        refine hv_iastN C I (isD_11 hD) hi57 (by decide) dX4_init_75 (fun H locs I => ?_)
        obtain ⟨h_18, eh_18⟩ : ∃ z, z = hv_up h_17 (ad 1 1) (.inl (G.2.1 0, 6, .inl (upd (filC 30 i) i 30))) := ⟨_, rfl⟩
        have I : hv_I G h s h_18 H locs := by rw [eh_18]; exact I
        have hD : isD G h_18 ad 0 0 0 0 0 (va_up (va_up (va_up (va_up ar 1 (filC 30 i)) 2 (filC 30 i)) 1 (upd (filC 30 i) i 30)) 2 (upd (filC 30 i) i 30)) (fun _ => 0) (fun _ => []) := isD_la hD eh_18
        refine lv_iinc (v := nI (i + 1)) (lv' := [(1, .int (nI (i + 1))), (0, .ref (ad 0 0))]) C.1 C.2.1 dX4_init_76 hl (k := 0) rfl (nI_1 i) (by decide) rfl (fun ls hl => ?_)
        refine lv_goto (tgt := 54) C.1 C.2.1 dX4_init_79 (by decide) ?_
        exact ih (i + 1) (by omega) (by omega) _ _ _ (isD_ar hD (by rw [va_up_sw _ (by decide), filC_1])) I ls (lv_sub hl [0, 1] rfl)
  exact loop (6 + 1) 0 (Nat.zero_le _) (by omega) _ _ _ (isD_ar hD (by rw [filC_0, show (fun _ => 0 : Nat → Int32) = ar 1 by rw [ear], va_up_id, show ar 1 = ar 2 by rw [ear], va_up_id])) I ls (lv_sub hl [0, 1] rfl)
