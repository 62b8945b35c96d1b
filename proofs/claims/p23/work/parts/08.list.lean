/-! ===== the library's list, method by method ===== -/
theorem hv_El_up {h h2 : hv} {f : Nat → Option Nat} {n a : Nat} {ca cb : List Value} (hel : hv_El h f n) (e : h2 = hv_up h a (.inr (0, cb))) (ha : h a = some (.inr (0, ca))) : hv_El h2 f n := by
  intro i hi y hy
  obtain ⟨ci, fs, r, e1, e2, e3⟩ := hel i hi y hy
  by_cases n : y = a
  · subst n
    rw [ha] at e1
    cases e1
    exact ⟨0, cb, r, by rw [e]; exact hv_up_eq, e2, e3⟩
  · exact ⟨ci, fs, r, by rw [e, hv_up_ne n]; exact e1, e2, e3⟩
theorem hv_le0 (n : Nat) : 0 + n ≤ n := by omega
theorem hv_mono {l : Launch} {y : MethodName} {ws : List Cond} {rm : Room} {Pc : Array Value → State → Prop} {Q1 Q2 : Array Value → State → Outcome → State → Prop} {mc ms : Nat} {free : Addr → Prop} (hM : Met l y ws rm Pc Q1 mc ms free) (hq : ∀ a st o t, Q1 a st o t → Q2 a st o t) : Met l y ws rm Pc Q2 mc ms free := by
  intro p e h1 h2 h3 s m args below h4 h5 h6 h7
  obtain ⟨n, o, k1, k2, k3, k4, k5⟩ := hM p e h1 h2 h3 s m args below h4 h5 h6 h7
  exact ⟨n, o, k1, k2, k3, hq _ _ _ _ k4, k5⟩
theorem hv_up_comm {h : hv} {a b : Nat} {e f : va_E} (n : a ≠ b) : hv_up (hv_up h a e) b f = hv_up (hv_up h b f) a e := by
  funext c
  by_cases h1 : c = b
  · subst h1
    rw [hv_up_eq, hv_up_ne (Ne.symm n), hv_up_eq]
  · rw [hv_up_ne h1]
    by_cases h2 : c = a
    · subst h2
      rw [hv_up_eq, hv_up_eq]
    · rw [hv_up_ne h2, hv_up_ne h2, hv_up_ne h1]
theorem hv_i1 (n : Nat) (h : 2 ≤ n) (hn : n ≤ 40000) : nI n >>> ((1 : Int32) &&& 31) = nI (n / 2) := by
  have k := pk_shrN (n := n) (by omega) ((1 : Int32) &&& 31) 1 (by decide)
  rw [Nat.pow_one] at k
  exact k
set_option maxHeartbeats 4000000 in
set_option maxRecDepth 100000 in
theorem c_Jxa1e45_init (l : Launch) (G : hv_G) (h : hv) (sz : Nat) (a : Nat) : hv_Mv l yJxa1e45_init_da8c8 wsJxa1e45_init_da8c8 1 30 0 0 G h sz [.ref a] (fun u => u = h) := by
  refine hv_enter (y := yJxa1e45_init_da8c8) (avs := [.ref a]) (maxL := 1) (Qf := fun sz => va_Qv (fun u => u = h) (hv_Bq G h sz) (hv_A h sz)) (by decide) rfl rfl (Nat.le_of_ble_eq_true rfl) ?_
  intro p e s m below meth c hr hnm C I ls hl
  have hl : lv_has ls 1 [(0, .ref a)] := hl
  refine lv_aload_n C.1 C.2.1 dJxa1e45_init_da8c8_0 rfl (lv_at hl 0 rfl) ?_
  refine W.objInit C.1 C.2.1 C.2.2.2.1 (C.ts (w := .methodLink RJxa1e45 1 objectInit) (by decide +kernel)) (C.ts (by decide +kernel)) (C.ts (by decide +kernel)) rfl (by rw [C.2.2.1]; exact hl.1) rfl dJxa1e45_init_da8c8_1 (Nat.le_of_ble_eq_true rfl) (Nat.le_of_ble_eq_true rfl) ?_
  refine W.eq (g2 := F0 m 4 ls []) rfl ?_
  exact hv_vret C hr I (rfl) dJxa1e45_init_da8c8_4 (Nat.le_of_ble_eq_true rfl) (Nat.le_of_ble_eq_true rfl)

set_option maxHeartbeats 4000000 in
set_option maxRecDepth 100000 in
theorem c_Jxc12de_init (l : Launch) (G : hv_G) (h : hv) (sz : Nat) {a : Nat} {x0 x2 : Int32} (fa : h a = some (.inr (0, [.int x0, .null, .int x2]))) : hv_Mv l yJxc12de_init_da8c8 wsJxc12de_init_da8c8 2 60 0 0 G h sz [.ref a] (fun u => u = hv_up h a (.inr (0, [.int 0, .null, .int x2]))) := by
  have wJx4a65c : ∀ w ∈ wsJx4a65c0, w ∈ wsJxc12de_init_da8c8 := by decide +kernel
  refine hv_enter (y := yJxc12de_init_da8c8) (avs := [.ref a]) (maxL := 1) (Qf := fun sz => va_Qv (fun u => u = hv_up h a (.inr (0, [.int 0, .null, .int x2]))) (hv_Bq G h sz) (hv_A h sz)) (by decide) rfl rfl (Nat.le_of_ble_eq_true rfl) ?_
  intro p e s m below meth c hr hnm C I ls hl
  have hl : lv_has ls 1 [(0, .ref a)] := hl
  refine lv_aload_n C.1 C.2.1 dJxc12de_init_da8c8_0 rfl (lv_at hl 0 rfl) ?_
  refine hv_kv I (va_runI (As := []) (rest := []) C.fix (c_Jxa1e45_init l G h _ a) (cwI 0 C.2.2.2.2.1 gJxc12de_init_da8c8_Jxa1e45_init_da8c8 rfl rfl rfl (C.ts (by decide +kernel)) (C.ts (w := .methodLink RJxc12de 1 yJxa1e45_init_da8c8) (by decide +kernel)) (C.ts (by decide +kernel)) rfl (by decide +kernel) ⟨Nat.le_of_ble_eq_true rfl, Nat.le_of_ble_eq_true rfl⟩) (hv_preS C I) rfl rfl hl.1 rfl (lv_room (Nat.le_of_ble_eq_true rfl)) dJxc12de_init_da8c8_1 ⟨Nat.le_of_ble_eq_true rfl, Nat.le_of_ble_eq_true rfl⟩) (fun u_1 H locs pu_1 I => ?_)
  have e1 := pu_1.symm; subst e1
  refine lv_aload_n C.1 C.2.1 dJxc12de_init_da8c8_4 rfl (lv_at hl 0 rfl) ?_
  refine lv_iconst (v := 0) C.1 C.2.1 dJxc12de_init_da8c8_5 (by decide) ?_
  refine hv_put (ci := 0) (Cn := RJx4a65c) (T := TJx4a65c) (N := 3) (ref := "java/util/AbstractList") (ty := .int) (v := .int 0) C I fa wJx4a65c tyJx4a65c tyJx4a65c_ok nmJx4a65c rfl 0 (by decide) (by decide +kernel) (fun _ h9 => h9) rfl (by decide +kernel) rfl rfl (Nat.le_of_ble_eq_true rfl) dJxc12de_init_da8c8_6 (fun H locs I => ?_)
  have I : hv_I G h s (hv_up h a (.inr (0, [.int 0, .null, .int x2]))) H locs := I
  obtain ⟨h_2, eh_2⟩ : ∃ z, z = hv_up h a (.inr (0, [.int 0, .null, .int x2])) := ⟨_, rfl⟩
  have I : hv_I G h s h_2 H locs := by rw [eh_2]; exact I
  have fa9 : h_2 a = some (.inr (0, [.int 0, .null, .int x2])) := by rw [eh_2]; exact hv_up_eq
  have fa := fa9
  exact hv_vret C hr I (by simp only [eh_2, hv_up_up]) dJxc12de_init_da8c8_9 (Nat.le_of_ble_eq_true rfl) (Nat.le_of_ble_eq_true rfl)

set_option maxHeartbeats 4000000 in
set_option maxRecDepth 100000 in
theorem c_AL_init (l : Launch) (G : hv_G) (h : hv) (sz : Nat) {a : Nat} {x0 x2 : Int32} (fa : h a = some (.inr (0, [.int x0, .null, .int x2]))) : hv_Mv l yJx4a65c_init_da8c8 wsJx4a65c_init_da8c8 3 90 0 0 G h sz [.ref a] (fun u => u = hv_up h a (.inr (0, [.int 0, .ref (G.2.2 1), .int x2]))) := by
  have wJx4a65c : ∀ w ∈ wsJx4a65c0, w ∈ wsJx4a65c_init_da8c8 := by decide +kernel
  refine hv_enter (y := yJx4a65c_init_da8c8) (avs := [.ref a]) (maxL := 1) (Qf := fun sz => va_Qv (fun u => u = hv_up h a (.inr (0, [.int 0, .ref (G.2.2 1), .int x2]))) (hv_Bq G h sz) (hv_A h sz)) (by decide) rfl rfl (Nat.le_of_ble_eq_true rfl) ?_
  intro p e s m below meth c hr hnm C I ls hl
  have hl : lv_has ls 1 [(0, .ref a)] := hl
  refine lv_aload_n C.1 C.2.1 dJx4a65c_init_da8c8_0 rfl (lv_at hl 0 rfl) ?_
  refine hv_kv I (va_runI (As := []) (rest := []) C.fix (c_Jxc12de_init l G h _ fa) (cwI 0 C.2.2.2.2.1 gJx4a65c_init_da8c8_Jxc12de_init_da8c8 rfl rfl rfl (C.ts (by decide +kernel)) (C.ts (w := .methodLink RJx4a65c 1 yJxc12de_init_da8c8) (by decide +kernel)) (C.ts (by decide +kernel)) rfl (by decide +kernel) ⟨Nat.le_of_ble_eq_true rfl, Nat.le_of_ble_eq_true rfl⟩) (hv_preS C I) rfl rfl hl.1 rfl (lv_room (Nat.le_of_ble_eq_true rfl)) dJx4a65c_init_da8c8_1 ⟨Nat.le_of_ble_eq_true rfl, Nat.le_of_ble_eq_true rfl⟩) (fun u_1 H locs pu_1 I => ?_)
  have fa9 : u_1 a = some (.inr (0, [.int 0, .null, .int x2])) := by rw [pu_1]; exact hv_up_eq
  have fa := fa9
  refine lv_aload_n C.1 C.2.1 dJx4a65c_init_da8c8_4 rfl (lv_at hl 0 rfl) ?_
  refine hv_gets C I (by decide +kernel) dJx4a65c_init_da8c8_5 ?_
  refine hv_put (ci := 0) (Cn := RJx4a65c) (T := TJx4a65c) (N := 3) (ref := "java/util/ArrayList") (ty := .array (.object "java/lang/Object")) (v := .ref (G.2.2 1)) C I fa wJx4a65c tyJx4a65c tyJx4a65c_ok nmJx4a65c rfl 1 (by decide) (by decide +kernel) (fun _ h9 => h9) rfl (by decide +kernel) rfl rfl (Nat.le_of_ble_eq_true rfl) dJx4a65c_init_da8c8_8 (fun H locs I => ?_)
  have I : hv_I G h s (hv_up u_1 a (.inr (0, [.int 0, .ref (G.2.2 1), .int x2]))) H locs := I
  obtain ⟨h_2, eh_2⟩ : ∃ z, z = hv_up u_1 a (.inr (0, [.int 0, .ref (G.2.2 1), .int x2])) := ⟨_, rfl⟩
  have I : hv_I G h s h_2 H locs := by rw [eh_2]; exact I
  have fa9 : h_2 a = some (.inr (0, [.int 0, .ref (G.2.2 1), .int x2])) := by rw [eh_2]; exact hv_up_eq
  have fa := fa9
  exact hv_vret C hr I (by simp only [eh_2, pu_1, hv_up_up]) dJx4a65c_init_da8c8_11 (Nat.le_of_ble_eq_true rfl) (Nat.le_of_ble_eq_true rfl)

set_option maxHeartbeats 4000000 in
set_option maxRecDepth 100000 in
theorem c_AL_size0 (l : Launch) (G : hv_G) (h : hv) (sz : Nat) {a t : Nat} {mo n : Int32} (fa : h a = some (.inr (0, [.int mo, .ref t, .int n]))) : hv_Mi l yJx4a65c_size_8abf5 wsJx4a65c_size_8abf5 0 0 0 0 G h sz [.ref a] (fun r u => u = h ∧ r = n) := by
  have wJx4a65c : ∀ w ∈ wsJx4a65c0, w ∈ wsJx4a65c_size_8abf5 := by decide +kernel
  refine hv_enter (y := yJx4a65c_size_8abf5) (avs := [.ref a]) (maxL := 1) (Qf := fun sz => va_Qi (fun r u => u = h ∧ r = n) (hv_Bq G h sz) (hv_A h sz)) (by decide) rfl rfl (Nat.le_of_ble_eq_true rfl) ?_
  intro p e s m below meth c hr hnm C I ls hl
  have hl : lv_has ls 1 [(0, .ref a)] := hl
  refine lv_aload_n C.1 C.2.1 dJx4a65c_size_8abf5_0 rfl (lv_at hl 0 rfl) ?_
  refine hv_get (ci := 0) (Cn := RJx4a65c) (T := TJx4a65c) (N := 3) (ref := "java/util/ArrayList") (v := .int n) C I fa wJx4a65c rfl 2 (by decide) (by decide +kernel) (fun _ h9 => h9) rfl dJx4a65c_size_8abf5_1 ?_
  exact hv_iret (v := n) C hr I (⟨rfl, rfl⟩) dJx4a65c_size_8abf5_4 (Nat.le_of_ble_eq_true rfl) (Nat.le_of_ble_eq_true rfl)

set_option maxHeartbeats 4000000 in
set_option maxRecDepth 100000 in
theorem c_AL_elementData (l : Launch) (G : hv_G) (h : hv) (sz : Nat) {a t : Nat} {mo n : Int32} (fa : h a = some (.inr (0, [.int mo, .ref t, .int n]))) {cap : Nat} {f : Nat → Option Nat} (ft : h t = some (.inl (G.2.1 3, cap, .inr (.inr (.inr (.inr f)))))) (p0 : Int32) (g0 : vp_in p0 cap) : hv_Mq l yJx4a65c_elementData_915e3 wsJx4a65c_elementData_915e3 0 0 0 0 G h sz [.ref a, .int p0] (fun r u => u = h ∧ r = f p0.toNatClampNeg) := by
  have wJx4a65c : ∀ w ∈ wsJx4a65c0, w ∈ wsJx4a65c_elementData_915e3 := by decide +kernel
  refine hv_enter (y := yJx4a65c_elementData_915e3) (avs := [.ref a, .int p0]) (maxL := 2) (Qf := fun sz => va_Qq (fun r u => u = h ∧ r = f p0.toNatClampNeg) (hv_Bq G h sz) (hv_A h sz)) (by decide) rfl rfl (Nat.le_of_ble_eq_true rfl) ?_
  intro p e s m below meth c hr hnm C I ls hl
  have hl : lv_has ls 2 [(0, .ref a), (1, .int p0)] := hl
  refine lv_aload_n C.1 C.2.1 dJx4a65c_elementData_915e3_0 rfl (lv_at hl 0 rfl) ?_
  refine hv_get (ci := 0) (Cn := RJx4a65c) (T := TJx4a65c) (N := 3) (ref := "java/util/ArrayList") (v := .ref t) C I fa wJx4a65c rfl 1 (by decide) (by decide +kernel) (fun _ h9 => h9) rfl dJx4a65c_elementData_915e3_1 ?_
  refine lv_iload_n C.1 C.2.1 dJx4a65c_elementData_915e3_4 rfl (lv_at hl 1 rfl) ?_
  refine hv_oald C I ft g0 dJx4a65c_elementData_915e3_5 ?_
  exact hv_qret (r := f p0.toNatClampNeg) C hr (Or.inl ⟨_, rfl⟩) I (⟨rfl, rfl⟩) dJx4a65c_elementData_915e3_6 (Nat.le_of_ble_eq_true rfl) (Nat.le_of_ble_eq_true rfl)

set_option maxHeartbeats 4000000 in
set_option maxRecDepth 100000 in
theorem c_J3_checkIndex (l : Launch) (G : hv_G) (h : hv) (sz : Nat) (p0 p1 : Int32) (g0 : ¬ p0 < 0) (g1 : p0 < p1) : hv_Mi l yJ3_checkIndex_8e157 wsJ3_checkIndex_8e157 0 0 0 0 G h sz [.int p0, .int p1, .null] (fun r u => u = h ∧ r = p0) := by
  refine hv_enter (y := yJ3_checkIndex_8e157) (avs := [.int p0, .int p1, .null]) (maxL := 3) (Qf := fun sz => va_Qi (fun r u => u = h ∧ r = p0) (hv_Bq G h sz) (hv_A h sz)) (by decide) rfl rfl (Nat.le_of_ble_eq_true rfl) ?_
  intro p e s m below meth c hr hnm C I ls hl
  have hl : lv_has ls 3 [(0, .int p0), (1, .int p1), (2, .null)] := hl
  refine lv_iload_n C.1 C.2.1 dJ3_checkIndex_8e157_0 rfl (lv_at hl 0 rfl) ?_
  refine lv_if_lt (tgt := 9) C.1 C.2.1 dJ3_checkIndex_8e157_1 (by decide) (fun c1 => ?_) (fun c1 => ?_)
  · exact absurd c1 g0
  · refine lv_iload_n C.1 C.2.1 dJ3_checkIndex_8e157_4 rfl (lv_at hl 0 rfl) ?_
    refine lv_iload_n C.1 C.2.1 dJ3_checkIndex_8e157_5 rfl (lv_at hl 1 rfl) ?_
    refine lv_icmp_lt (tgt := 16) C.1 C.2.1 dJ3_checkIndex_8e157_6 (by decide) (fun c6 => ?_) (fun c6 => ?_)
    · refine lv_iload_n C.1 C.2.1 dJ3_checkIndex_8e157_16 rfl (lv_at hl 0 rfl) ?_
      exact hv_iret (v := p0) C hr I (⟨rfl, rfl⟩) dJ3_checkIndex_8e157_17 (Nat.le_of_ble_eq_true rfl) (Nat.le_of_ble_eq_true rfl)
    · exact absurd g1 c6

set_option maxHeartbeats 4000000 in
set_option maxRecDepth 100000 in
theorem c_J15_checkIndex (l : Launch) (G : hv_G) (h : hv) (sz : Nat) (p0 p1 : Int32) (g0 : ¬ p0 < 0) (g1 : p0 < p1) : hv_Mi l yJ15_checkIndex_7cf53 wsJ15_checkIndex_7cf53 1 30 0 0 G h sz [.int p0, .int p1] (fun r u => u = h ∧ r = p0) := by
  refine hv_enter (y := yJ15_checkIndex_7cf53) (avs := [.int p0, .int p1]) (maxL := 2) (Qf := fun sz => va_Qi (fun r u => u = h ∧ r = p0) (hv_Bq G h sz) (hv_A h sz)) (by decide) rfl rfl (Nat.le_of_ble_eq_true rfl) ?_
  intro p e s m below meth c hr hnm C I ls hl
  have hl : lv_has ls 2 [(0, .int p0), (1, .int p1)] := hl
  refine lv_iload_n C.1 C.2.1 dJ15_checkIndex_7cf53_0 rfl (lv_at hl 0 rfl) ?_
  refine lv_iload_n C.1 C.2.1 dJ15_checkIndex_7cf53_1 rfl (lv_at hl 1 rfl) ?_
  refine lv_null C.1 C.2.1 dJ15_checkIndex_7cf53_2 ?_
  refine hv_ki I (va_runS (As := [.int p0, .int p1, .null]) (rest := []) C.fix (c_J3_checkIndex l G h _ p0 p1 g0 g1) (va_cwS 3 C.2.2.2.2.1 gJ15_checkIndex_7cf53_J3_checkIndex_8e157 rfl rfl rfl (by decide +kernel) ⟨Nat.le_of_ble_eq_true rfl, Nat.le_of_ble_eq_true rfl⟩) (hv_preS C I) rfl rfl hl.1 rfl (lv_room (Nat.le_of_ble_eq_true rfl)) dJ15_checkIndex_7cf53_3 ⟨Nat.le_of_ble_eq_true rfl, Nat.le_of_ble_eq_true rfl⟩) (fun ru_1 u_1 H locs pu_1 I => ?_)
  obtain ⟨e1, e2⟩ := pu_1; have e1 := e1.symm; subst e1; have e2 := e2.symm; subst e2
  exact hv_iret (v := p0) C hr I (⟨rfl, rfl⟩) dJ15_checkIndex_7cf53_6 (Nat.le_of_ble_eq_true rfl) (Nat.le_of_ble_eq_true rfl)

set_option maxHeartbeats 4000000 in
set_option maxRecDepth 100000 in
theorem c_AL_get0 (l : Launch) (G : hv_G) (h : hv) (sz : Nat) {a t : Nat} {mo n : Int32} (fa : h a = some (.inr (0, [.int mo, .ref t, .int n]))) {cap : Nat} {f : Nat → Option Nat} (ft : h t = some (.inl (G.2.1 3, cap, .inr (.inr (.inr (.inr f)))))) (p0 : Int32) (g0 : ¬ p0 < 0) (g1 : p0 < n) (g2 : vp_in p0 cap) : hv_Mq l yJx4a65c_get_915e3 wsJx4a65c_get_915e3 2 60 0 0 G h sz [.ref a, .int p0] (fun r u => u = h ∧ r = f p0.toNatClampNeg) := by
  have wJx4a65c : ∀ w ∈ wsJx4a65c0, w ∈ wsJx4a65c_get_915e3 := by decide +kernel
  refine hv_enter (y := yJx4a65c_get_915e3) (avs := [.ref a, .int p0]) (maxL := 2) (Qf := fun sz => va_Qq (fun r u => u = h ∧ r = f p0.toNatClampNeg) (hv_Bq G h sz) (hv_A h sz)) (by decide) rfl rfl (Nat.le_of_ble_eq_true rfl) ?_
  intro p e s m below meth c hr hnm C I ls hl
  have hl : lv_has ls 2 [(0, .ref a), (1, .int p0)] := hl
  refine lv_iload_n C.1 C.2.1 dJx4a65c_get_915e3_0 rfl (lv_at hl 1 rfl) ?_
  refine lv_aload_n C.1 C.2.1 dJx4a65c_get_915e3_1 rfl (lv_at hl 0 rfl) ?_
  refine hv_get (ci := 0) (Cn := RJx4a65c) (T := TJx4a65c) (N := 3) (ref := "java/util/ArrayList") (v := .int n) C I fa wJx4a65c rfl 2 (by decide) (by decide +kernel) (fun _ h9 => h9) rfl dJx4a65c_get_915e3_2 ?_
  refine hv_ki I (va_runS (As := [.int p0, .int n]) (rest := []) C.fix (c_J15_checkIndex l G h _ p0 n g0 g1) (va_cwS 2 C.2.2.2.2.1 gJx4a65c_get_915e3_J15_checkIndex_7cf53 rfl rfl rfl (by decide +kernel) ⟨Nat.le_of_ble_eq_true rfl, Nat.le_of_ble_eq_true rfl⟩) (hv_preS C I) rfl rfl hl.1 rfl (lv_room (Nat.le_of_ble_eq_true rfl)) dJx4a65c_get_915e3_5 ⟨Nat.le_of_ble_eq_true rfl, Nat.le_of_ble_eq_true rfl⟩) (fun ru_1 u_1 H locs pu_1 I => ?_)
  obtain ⟨e1, e2⟩ := pu_1; have e1 := e1.symm; subst e1; have e2 := e2.symm; subst e2
  refine lv_pop C.1 C.2.1 dJx4a65c_get_915e3_8 rfl ?_
  refine lv_aload_n C.1 C.2.1 dJx4a65c_get_915e3_9 rfl (lv_at hl 0 rfl) ?_
  refine lv_iload_n C.1 C.2.1 dJx4a65c_get_915e3_10 rfl (lv_at hl 1 rfl) ?_
  refine hv_kq I (va_runV (As := [.int p0]) (rest := []) C.fix (c_AL_elementData l G h _ fa ft p0 g2) (cwV 1 C.2.2.2.2.1 gJx4a65c_get_915e3_Jx4a65c_elementData_915e3 rfl rfl rfl (by decide +kernel) ⟨Nat.le_of_ble_eq_true rfl, Nat.le_of_ble_eq_true rfl⟩) (hv_preV C I fa (r := (RJx4a65c, TJx4a65c, 3)) rfl) rfl rfl hl.1 rfl (lv_room (Nat.le_of_ble_eq_true rfl)) dJx4a65c_get_915e3_11 ⟨Nat.le_of_ble_eq_true rfl, Nat.le_of_ble_eq_true rfl⟩) (fun ru_2 u_2 H locs pu_2 I => ?_)
  obtain ⟨e1, e2⟩ := pu_2; have e1 := e1.symm; subst e1; have e2 := e2.symm; subst e2
  exact hv_qret (r := f p0.toNatClampNeg) C hr (Or.inl ⟨_, rfl⟩) I (⟨rfl, rfl⟩) dJx4a65c_get_915e3_14 (Nat.le_of_ble_eq_true rfl) (Nat.le_of_ble_eq_true rfl)

set_option maxHeartbeats 4000000 in
set_option maxRecDepth 100000 in
theorem c_J8_newLength (l : Launch) (G : hv_G) (h : hv) (sz : Nat) (p0 p1 p2 : Int32) (g0 : ¬ p0 + (if p1 < p2 then p2 else p1) ≤ 0) (g1 : ¬ 2147483639 < p0 + (if p1 < p2 then p2 else p1)) : hv_Mi l yJ8_newLength_cabcc wsJ8_newLength_cabcc 1 20 0 0 G h sz [.int p0, .int p1, .int p2] (fun r u => u = h ∧ r = p0 + (if p1 < p2 then p2 else p1)) := by
  refine hv_enter (y := yJ8_newLength_cabcc) (avs := [.int p0, .int p1, .int p2]) (maxL := 4) (Qf := fun sz => va_Qi (fun r u => u = h ∧ r = p0 + (if p1 < p2 then p2 else p1)) (hv_Bq G h sz) (hv_A h sz)) (by decide) rfl rfl (Nat.le_of_ble_eq_true rfl) ?_
  intro p e s m below meth c hr hnm C I ls hl
  have hl : lv_has ls 4 [(0, .int p0), (1, .int p1), (2, .int p2)] := hl
  refine lv_iload_n C.1 C.2.1 dJ8_newLength_cabcc_0 rfl (lv_at hl 0 rfl) ?_
  refine lv_iload_n C.1 C.2.1 dJ8_newLength_cabcc_1 rfl (lv_at hl 1 rfl) ?_
  refine lv_iload_n C.1 C.2.1 dJ8_newLength_cabcc_2 rfl (lv_at hl 2 rfl) ?_
  refine va_mmax C.1 C.2.1 (C.2.2.1.trans hl.1.symm) C.2.2.2.1 (C.ts (w := .methodLink RJ8 194 Lib.Math.max.name) (by decide +kernel)) (C.ts (by decide +kernel)) (C.ts (by decide +kernel)) (C.ts (by decide +kernel)) (Nat.le_of_ble_eq_true rfl) (Nat.le_of_ble_eq_true rfl) (Nat.zero_le _) (Nat.zero_le _) dJ8_newLength_cabcc_3 ?_
  refine lv_iadd C.1 C.2.1 dJ8_newLength_cabcc_6 ?_
  refine lv_istore_n (lv' := [(3, .int (p0 + (if p1 < p2 then p2 else p1))), (0, .int p0), (1, .int p1), (2, .int p2)]) C.1 C.2.1 dJ8_newLength_cabcc_7 rfl hl (by decide) rfl (fun ls hl => ?_)
  refine lv_iconst (v := 0) C.1 C.2.1 dJ8_newLength_cabcc_8 (by decide) ?_
  refine lv_iload_n C.1 C.2.1 dJ8_newLength_cabcc_9 rfl (lv_at hl 0 rfl) ?_
  refine lv_icmp_ge (tgt := 21) C.1 C.2.1 dJ8_newLength_cabcc_10 (by decide) (fun c10 => ?_) (fun c10 => ?_)
  · exact absurd c10 g0
  · refine lv_iload_n C.1 C.2.1 dJ8_newLength_cabcc_13 rfl (lv_at hl 0 rfl) ?_
    refine lv_ldc C.1 C.2.1 C.2.2.2.1 (C.ts (w := .constant RJ8 200 (2147483639)) (by decide +kernel)) dJ8_newLength_cabcc_14 ?_
    refine lv_icmp_gt (tgt := 21) C.1 C.2.1 dJ8_newLength_cabcc_16 (by decide) (fun c16 => ?_) (fun c16 => ?_)
    · exact absurd c16 g1
    · refine lv_iload_n C.1 C.2.1 dJ8_newLength_cabcc_19 rfl (lv_at hl 0 rfl) ?_
      exact hv_iret (v := (p0 + (if p1 < p2 then p2 else p1))) C hr I (⟨rfl, rfl⟩) dJ8_newLength_cabcc_20 (Nat.le_of_ble_eq_true rfl) (Nat.le_of_ble_eq_true rfl)

set_option maxHeartbeats 4000000 in
set_option maxRecDepth 100000 in
theorem c_J7_copyOf3 (l : Launch) (G : hv_G) (h : hv) (sz : Nat) {t cap : Nat} {f : Nat → Option Nat} (ft : h t = some (.inl (G.2.1 3, cap, .inr (.inr (.inr (.inr f)))))) (hel : hv_El h f cap) (N : Nat) (hc : cap ≤ N) (hN : N ≤ 1000) : hv_Mq l yJ7_copyOf_6403c wsJ7_copyOf_6403c 1 60 1 N G h sz [.ref t, .int (nI N), .ref (G.2.2 0)] (fun r u => ∃ q : Nat, h q = none ∧ r = some q ∧ u = hv_up h q (.inl (G.2.1 3, N, .inr (.inr (.inr (.inr (va_cpy f (fun _ => none) 0 0 cap))))))) := by
  refine hv_enter (y := yJ7_copyOf_6403c) (avs := [.ref t, .int (nI N), .ref (G.2.2 0)]) (maxL := 4) (Qf := fun sz => va_Qq (fun r u => ∃ q : Nat, h q = none ∧ r = some q ∧ u = hv_up h q (.inl (G.2.1 3, N, .inr (.inr (.inr (.inr (va_cpy f (fun _ => none) 0 0 cap))))))) (hv_Bq G h sz) (hv_A h sz)) (by decide) rfl rfl (Nat.le_of_ble_eq_true rfl) ?_
  intro p e s m below meth c hr hnm C I ls hl
  have hl : lv_has ls 4 [(0, .ref t), (1, .int (nI N)), (2, .ref (G.2.2 0))] := hl
  refine lv_aload_n C.1 C.2.1 dJ7_copyOf_6403c_0 rfl (lv_at hl 2 rfl) ?_
  refine hv_ldcM C (by decide +kernel) dJ7_copyOf_6403c_1 ?_
  refine lv_acmp_ne (rx := some (G.2.2 0)) (ry := some (G.2.2 0)) (tgt := 13) C.1 C.2.1 dJ7_copyOf_6403c_3 (by decide) (fun c3 => ?_) (fun c3 => ?_)
  · exact absurd rfl c3
  · refine lv_iload_n C.1 C.2.1 dJ7_copyOf_6403c_6 rfl (lv_at hl 1 rfl) ?_
    refine hv_newO (N := N) C I (by decide +kernel) (nI_pos (by omega)) (nI_clamp (by omega)) (by omega) (Nat.le_of_ble_eq_true rfl) (hv_le0 N) dJ7_copyOf_6403c_7 (fun q_1 H nq_1 I => ?_)
    obtain ⟨h_2, eh_2⟩ : ∃ z, z = hv_up h q_1 (.inl (G.2.1 3, N, .inr (.inr (.inr (.inr (fun _ => none)))))) := ⟨_, rfl⟩
    rw [← eh_2] at I
    have ne_ft_q_1 : t ≠ q_1 := hv_neN ft nq_1
    have ft9 : h_2 t = some (.inl (G.2.1 3, cap, .inr (.inr (.inr (.inr f))))) := by rw [eh_2, hv_up_ne (hv_neN ft nq_1)]; exact ft
    have ft := ft9
    have fq_1 : h_2 q_1 = some (.inl (G.2.1 3, N, .inr (.inr (.inr (.inr (fun _ => none)))))) := by rw [eh_2]; exact hv_up_eq
    refine lv_goto (tgt := 24) C.1 C.2.1 dJ7_copyOf_6403c_10 (by decide) ?_
    refine lv_astore_n (lv' := [(3, .ref q_1), (0, .ref t), (1, .int (nI N)), (2, .ref (G.2.2 0))]) C.1 C.2.1 dJ7_copyOf_6403c_24 rfl hl (by decide) rfl (fun ls hl => ?_)
    refine lv_aload_n C.1 C.2.1 dJ7_copyOf_6403c_25 rfl (lv_at hl 1 rfl) ?_
    refine lv_iconst (v := 0) C.1 C.2.1 dJ7_copyOf_6403c_26 (by decide) ?_
    refine lv_aload_n C.1 C.2.1 dJ7_copyOf_6403c_27 rfl (lv_at hl 0 rfl) ?_
    refine lv_iconst (v := 0) C.1 C.2.1 dJ7_copyOf_6403c_28 (by decide) ?_
    refine lv_aload_n C.1 C.2.1 dJ7_copyOf_6403c_29 rfl (lv_at hl 1 rfl) ?_
    refine hv_alen (v := nI cap) C I ft 3 rfl rfl dJ7_copyOf_6403c_30 ?_
    refine lv_iload_n C.1 C.2.1 dJ7_copyOf_6403c_31 rfl (lv_at hl 2 rfl) ?_
    refine va_mmin C.1 C.2.1 (C.2.2.1.trans hl.1.symm) C.2.2.2.1 (C.ts (w := .methodLink RJ7 304 Lib.Math.min.name) (by decide +kernel)) (C.ts (by decide +kernel)) (C.ts (by decide +kernel)) (C.ts (by decide +kernel)) (Nat.le_of_ble_eq_true rfl) (Nat.le_of_ble_eq_true rfl) (by show _ ≤ _; simp) (by show _ ≤ _; simp) dJ7_copyOf_6403c_32 ?_
    refine lv_topi (fun z_3 ez_3 => ?_)
    have ez_3 : z_3 = nI cap := by rw [ez_3]; exact if_neg (nI_nlt hc (by omega))
    subst ez_3
    have hel2 : hv_El h_2 f (nI cap).toNatClampNeg := by
      rw [nI_clamp (by omega)]; intro i hi y hy; obtain ⟨ci, fs, r, e1, e2, e3⟩ := hel i hi y hy
      exact ⟨ci, fs, r, by rw [eh_2, hv_up_ne (hv_neN e1 nq_1)]; exact e1, e2, e3⟩
    refine hv_copy (n := nI cap) C I hl.1 (by decide +kernel) (by decide +kernel) (by decide +kernel) (by decide +kernel) ft fq_1 (nI_pos (by omega)) (by rw [nI_clamp (by omega)]; exact Nat.le_refl _) (by rw [nI_clamp (by omega)]; exact hc) hel2 (Nat.le_of_ble_eq_true rfl) (Nat.le_of_ble_eq_true rfl) dJ7_copyOf_6403c_35 (fun H locs I => ?_)
    obtain ⟨h_4, eh_4⟩ : ∃ z, z = hv_up h_2 q_1 (.inl (G.2.1 3, N, .inr (.inr (.inr (.inr (va_cpy f (fun _ => none) 0 0 (nI cap).toNatClampNeg)))))) := ⟨_, rfl⟩
    have I : hv_I G h s h_4 H locs := by rw [eh_4]; exact I
    have ft9 : h_4 t = some (.inl (G.2.1 3, cap, .inr (.inr (.inr (.inr f))))) := by rw [eh_4, hv_up_ne ne_ft_q_1]; exact ft
    have fq_19 : h_4 q_1 = some (.inl (G.2.1 3, N, .inr (.inr (.inr (.inr (va_cpy f (fun _ => none) 0 0 (nI cap).toNatClampNeg)))))) := by rw [eh_4]; exact hv_up_eq
    have ft := ft9
    have fq_1 := fq_19
    refine lv_aload_n C.1 C.2.1 dJ7_copyOf_6403c_38 rfl (lv_at hl 0 rfl) ?_
    exact hv_qret (r := some q_1) C hr (Or.inr ⟨_, rfl⟩) I (⟨q_1, nq_1, rfl, by simp only [eh_4, eh_2, hv_up_up]; rw [nI_clamp (by omega)]⟩) dJ7_copyOf_6403c_39 (Nat.le_of_ble_eq_true rfl) (hv_le0 N)

set_option maxHeartbeats 4000000 in
set_option maxRecDepth 100000 in
theorem c_J7_copyOf2 (l : Launch) (G : hv_G) (h : hv) (sz : Nat) {t cap : Nat} {f : Nat → Option Nat} (ft : h t = some (.inl (G.2.1 3, cap, .inr (.inr (.inr (.inr f)))))) (hel : hv_El h f cap) (N : Nat) (hc : cap ≤ N) (hN : N ≤ 1000) : hv_Mq l yJ7_copyOf_1904c wsJ7_copyOf_1904c 2 90 1 N G h sz [.ref t, .int (nI N)] (fun r u => ∃ q : Nat, h q = none ∧ r = some q ∧ u = hv_up h q (.inl (G.2.1 3, N, .inr (.inr (.inr (.inr (va_cpy f (fun _ => none) 0 0 cap))))))) := by
  refine hv_enter (y := yJ7_copyOf_1904c) (avs := [.ref t, .int (nI N)]) (maxL := 2) (Qf := fun sz => va_Qq (fun r u => ∃ q : Nat, h q = none ∧ r = some q ∧ u = hv_up h q (.inl (G.2.1 3, N, .inr (.inr (.inr (.inr (va_cpy f (fun _ => none) 0 0 cap))))))) (hv_Bq G h sz) (hv_A h sz)) (by decide) rfl rfl (Nat.le_of_ble_eq_true rfl) ?_
  intro p e s m below meth c hr hnm C I ls hl
  have hl : lv_has ls 2 [(0, .ref t), (1, .int (nI N))] := hl
  refine lv_aload_n C.1 C.2.1 dJ7_copyOf_1904c_0 rfl (lv_at hl 0 rfl) ?_
  refine lv_iload_n C.1 C.2.1 dJ7_copyOf_1904c_1 rfl (lv_at hl 1 rfl) ?_
  refine lv_aload_n C.1 C.2.1 dJ7_copyOf_1904c_2 rfl (lv_at hl 0 rfl) ?_
  refine hv_getC C I hl.1 ft (by decide +kernel) (by decide +kernel) (by decide +kernel) (by decide +kernel) (Nat.le_of_ble_eq_true rfl) (Nat.le_of_ble_eq_true rfl) dJ7_copyOf_1904c_3 ?_
  refine hv_kq I (va_runS (As := [.ref t, .int (nI N), .ref (G.2.2 0)]) (rest := []) C.fix (c_J7_copyOf3 l G h _ ft hel N hc hN) (va_cwS 3 C.2.2.2.2.1 gJ7_copyOf_1904c_J7_copyOf_6403c rfl rfl rfl (by decide +kernel) ⟨Nat.le_of_ble_eq_true rfl, Nat.le_of_ble_eq_true rfl⟩) (hv_preS C I) rfl rfl hl.1 rfl (lv_room (Nat.le_of_ble_eq_true rfl)) dJ7_copyOf_1904c_6 ⟨Nat.le_of_ble_eq_true rfl, by show _ ≤ _; simp⟩) (fun ru_1 u_1 H locs pu_1 I => ?_)
  obtain ⟨q_2, nq_2, e1, eu_1⟩ := pu_1; have e1 := e1.symm; subst e1
  have ft9 : u_1 t = some (.inl (G.2.1 3, cap, .inr (.inr (.inr (.inr f))))) := by rw [eu_1, hv_up_ne (hv_neN ft nq_2)]; exact ft
  have ft := ft9
  have fq_2 : u_1 q_2 = some (.inl (G.2.1 3, N, .inr (.inr (.inr (.inr (va_cpy f (fun _ => none) 0 0 cap)))))) := by rw [eu_1]; exact hv_up_eq
  exact hv_qret (r := some q_2) C hr (Or.inr ⟨_, rfl⟩) I (⟨q_2, nq_2, rfl, eu_1⟩) dJ7_copyOf_1904c_9 (Nat.le_of_ble_eq_true rfl) (hv_le0 N)

set_option maxHeartbeats 4000000 in
set_option maxRecDepth 100000 in
theorem c_AL_growA_first (l : Launch) (G : hv_G) (h : hv) (sz : Nat) {a : Nat} {mo : Int32} {n : Int32} (fa : h a = some (.inr (0, [.int mo, .ref (G.2.2 1), .int n]))) : hv_Mq l yJx4a65c_grow_92f84 wsJx4a65c_grow_92f84 3 150 1 10 G h sz [.ref a, .int 1] (fun r u => ∃ q : Nat, h q = none ∧ r = some q ∧ u = hv_up (hv_up h q (.inl (G.2.1 3, 10, .inr (.inr (.inr (.inr (fun _ => none))))))) a (.inr (0, [.int mo, .ref q, .int n]))) := by
  have wJx4a65c : ∀ w ∈ wsJx4a65c0, w ∈ wsJx4a65c_grow_92f84 := by decide +kernel
  refine hv_enter (y := yJx4a65c_grow_92f84) (avs := [.ref a, .int 1]) (maxL := 4) (Qf := fun sz => va_Qq (fun r u => ∃ q : Nat, h q = none ∧ r = some q ∧ u = hv_up (hv_up h q (.inl (G.2.1 3, 10, .inr (.inr (.inr (.inr (fun _ => none))))))) a (.inr (0, [.int mo, .ref q, .int n]))) (hv_Bq G h sz) (hv_A h sz)) (by decide) rfl rfl (Nat.le_of_ble_eq_true rfl) ?_
  intro p e s m below meth c hr hnm C I ls hl
  have hl : lv_has ls 4 [(0, .ref a), (1, .int 1)] := hl
  refine lv_aload_n C.1 C.2.1 dJx4a65c_grow_92f84_0 rfl (lv_at hl 0 rfl) ?_
  refine hv_get (ci := 0) (Cn := RJx4a65c) (T := TJx4a65c) (N := 3) (ref := "java/util/ArrayList") (v := .ref (G.2.2 1)) C I fa wJx4a65c rfl 1 (by decide) (by decide +kernel) (fun _ h9 => h9) rfl dJx4a65c_grow_92f84_1 ?_
  refine hv_tlen C I dJx4a65c_grow_92f84_4 ?_
  refine lv_istore_n (lv' := [(2, .int 0), (0, .ref a), (1, .int 1)]) C.1 C.2.1 dJx4a65c_grow_92f84_5 rfl hl (by decide) rfl (fun ls hl => ?_)
  refine lv_iload_n C.1 C.2.1 dJx4a65c_grow_92f84_6 rfl (lv_at hl 0 rfl) ?_
  refine lv_if_gt (tgt := 20) C.1 C.2.1 dJx4a65c_grow_92f84_7 (by decide) (fun c7 => ?_) (fun c7 => ?_)
  · exact absurd c7 (by decide)
  · refine lv_aload_n C.1 C.2.1 dJx4a65c_grow_92f84_10 rfl (lv_at hl 1 rfl) ?_
    refine hv_get (ci := 0) (Cn := RJx4a65c) (T := TJx4a65c) (N := 3) (ref := "java/util/ArrayList") (v := .ref (G.2.2 1)) C I fa wJx4a65c rfl 1 (by decide) (by decide +kernel) (fun _ h9 => h9) rfl dJx4a65c_grow_92f84_11 ?_
    refine hv_gets C I (by decide +kernel) dJx4a65c_grow_92f84_14 ?_
    refine lv_acmp_eq (rx := some (G.2.2 1)) (ry := some (G.2.2 1)) (tgt := 45) C.1 C.2.1 dJx4a65c_grow_92f84_17 (by decide) (fun c17 => ?_) (fun c17 => ?_)
    · refine lv_aload_n C.1 C.2.1 dJx4a65c_grow_92f84_45 rfl (lv_at hl 1 rfl) ?_
      refine lv_bipush (v := 10) C.1 C.2.1 dJx4a65c_grow_92f84_46 (by decide) ?_
      refine lv_iload_n C.1 C.2.1 dJx4a65c_grow_92f84_48 rfl (lv_at hl 2 rfl) ?_
      refine va_mmax C.1 C.2.1 (C.2.2.1.trans hl.1.symm) C.2.2.2.1 (C.ts (w := .methodLink RJx4a65c 79 Lib.Math.max.name) (by decide +kernel)) (C.ts (by decide +kernel)) (C.ts (by decide +kernel)) (C.ts (by decide +kernel)) (Nat.le_of_ble_eq_true rfl) (Nat.le_of_ble_eq_true rfl) (Nat.le_of_ble_eq_true rfl) (Nat.le_of_ble_eq_true rfl) dJx4a65c_grow_92f84_49 ?_
      refine lv_topi (fun z_1 ez_1 => ?_)
      have ez_1 : z_1 = 10 := by rw [ez_1]; decide
      subst ez_1
      refine hv_newO (N := 10) C I (by decide +kernel) (by decide) (by decide) (by decide) (Nat.le_of_ble_eq_true rfl) (Nat.le_of_ble_eq_true rfl) dJx4a65c_grow_92f84_52 (fun q_2 H nq_2 I => ?_)
      obtain ⟨h_3, eh_3⟩ : ∃ z, z = hv_up h q_2 (.inl (G.2.1 3, 10, .inr (.inr (.inr (.inr (fun _ => none)))))) := ⟨_, rfl⟩
      rw [← eh_3] at I
      have fa9 : h_3 a = some (.inr (0, [.int mo, .ref (G.2.2 1), .int n])) := by rw [eh_3, hv_up_ne (hv_neN fa nq_2)]; exact fa
      have fa := fa9
      have fq_2 : h_3 q_2 = some (.inl (G.2.1 3, 10, .inr (.inr (.inr (.inr (fun _ => none)))))) := by rw [eh_3]; exact hv_up_eq
      refine lv_dup_x1 C.1 C.2.1 dJx4a65c_grow_92f84_55 rfl rfl ?_
      refine hv_put (ci := 0) (Cn := RJx4a65c) (T := TJx4a65c) (N := 3) (ref := "java/util/ArrayList") (ty := .array (.object "java/lang/Object")) (v := .ref q_2) C I fa wJx4a65c tyJx4a65c tyJx4a65c_ok nmJx4a65c rfl 1 (by decide) (by decide +kernel) (fun _ h9 => h9) rfl (by decide +kernel) rfl rfl (Nat.le_of_ble_eq_true rfl) dJx4a65c_grow_92f84_56 (fun H locs I => ?_)
      have I : hv_I G h s (hv_up h_3 a (.inr (0, [.int mo, .ref q_2, .int n]))) H locs := I
      obtain ⟨h_4, eh_4⟩ : ∃ z, z = hv_up h_3 a (.inr (0, [.int mo, .ref q_2, .int n])) := ⟨_, rfl⟩
      have I : hv_I G h s h_4 H locs := by rw [eh_4]; exact I
      have fa9 : h_4 a = some (.inr (0, [.int mo, .ref q_2, .int n])) := by rw [eh_4]; exact hv_up_eq
      have fq_29 : h_4 q_2 = some (.inl (G.2.1 3, 10, .inr (.inr (.inr (.inr (fun _ => none)))))) := by rw [eh_4, hv_up_ne (hv_neAO fq_2 fa)]; exact fq_2
      have fa := fa9
      have fq_2 := fq_29
      exact hv_qret (r := some q_2) C hr (Or.inr ⟨_, rfl⟩) I (⟨q_2, nq_2, rfl, by simp only [eh_4, eh_3, hv_up_up]⟩) dJx4a65c_grow_92f84_59 (Nat.le_of_ble_eq_true rfl) (Nat.le_of_ble_eq_true rfl)
    · exact absurd rfl c17

set_option maxHeartbeats 4000000 in
set_option maxRecDepth 100000 in
theorem c_AL_growA_more (l : Launch) (G : hv_G) (h : hv) (sz : Nat) {a : Nat} {mo : Int32} {n : Int32} {t N : Nat} {f : Nat → Option Nat} (ft : h t = some (.inl (G.2.1 3, N, .inr (.inr (.inr (.inr f)))))) (hel : hv_El h f N) (h2 : 2 ≤ N) (hN : N ≤ 600) (fa : h a = some (.inr (0, [.int mo, .ref t, .int n]))) : hv_Mq l yJx4a65c_grow_92f84 wsJx4a65c_grow_92f84 3 150 1 (N + N / 2) G h sz [.ref a, .int (nI (N + 1))] (fun r u => ∃ q : Nat, h q = none ∧ r = some q ∧ u = hv_up (hv_up h q (.inl (G.2.1 3, N + N / 2, .inr (.inr (.inr (.inr (va_cpy f (fun _ => none) 0 0 N))))))) a (.inr (0, [.int mo, .ref q, .int n]))) := by
  have wJx4a65c : ∀ w ∈ wsJx4a65c0, w ∈ wsJx4a65c_grow_92f84 := by decide +kernel
  refine hv_enter (y := yJx4a65c_grow_92f84) (avs := [.ref a, .int (nI (N + 1))]) (maxL := 4) (Qf := fun sz => va_Qq (fun r u => ∃ q : Nat, h q = none ∧ r = some q ∧ u = hv_up (hv_up h q (.inl (G.2.1 3, N + N / 2, .inr (.inr (.inr (.inr (va_cpy f (fun _ => none) 0 0 N))))))) a (.inr (0, [.int mo, .ref q, .int n]))) (hv_Bq G h sz) (hv_A h sz)) (by decide) rfl rfl (Nat.le_of_ble_eq_true rfl) ?_
  intro p e s m below meth c hr hnm C I ls hl
  have hl : lv_has ls 4 [(0, .ref a), (1, .int (nI (N + 1)))] := hl
  refine lv_aload_n C.1 C.2.1 dJx4a65c_grow_92f84_0 rfl (lv_at hl 0 rfl) ?_
  refine hv_get (ci := 0) (Cn := RJx4a65c) (T := TJx4a65c) (N := 3) (ref := "java/util/ArrayList") (v := .ref t) C I fa wJx4a65c rfl 1 (by decide) (by decide +kernel) (fun _ h9 => h9) rfl dJx4a65c_grow_92f84_1 ?_
  refine hv_alen (v := nI N) C I ft 3 rfl rfl dJx4a65c_grow_92f84_4 ?_
  refine lv_istore_n (lv' := [(2, .int (nI N)), (0, .ref a), (1, .int (nI (N + 1)))]) C.1 C.2.1 dJx4a65c_grow_92f84_5 rfl hl (by decide) rfl (fun ls hl => ?_)
  refine lv_iload_n C.1 C.2.1 dJx4a65c_grow_92f84_6 rfl (lv_at hl 0 rfl) ?_
  refine lv_if_gt (tgt := 20) C.1 C.2.1 dJx4a65c_grow_92f84_7 (by decide) (fun c7 => ?_) (fun c7 => ?_)
  · refine lv_iload_n C.1 C.2.1 dJx4a65c_grow_92f84_20 rfl (lv_at hl 0 rfl) ?_
    refine lv_iload_n C.1 C.2.1 dJx4a65c_grow_92f84_21 rfl (lv_at hl 2 rfl) ?_
    refine lv_iload_n C.1 C.2.1 dJx4a65c_grow_92f84_22 rfl (lv_at hl 0 rfl) ?_
    refine lv_isub C.1 C.2.1 dJx4a65c_grow_92f84_23 ?_
    refine lv_topi (fun z_1 ez_1 => ?_)
    have ez_1 : z_1 = nI 1 := by rw [ez_1]; rw [pk_sub (by omega), show N + 1 - N = 1 by omega]
    subst ez_1
    refine lv_iload_n C.1 C.2.1 dJx4a65c_grow_92f84_24 rfl (lv_at hl 0 rfl) ?_
    refine lv_iconst (v := 1) C.1 C.2.1 dJx4a65c_grow_92f84_25 (by decide) ?_
    refine lv_ishr C.1 C.2.1 dJx4a65c_grow_92f84_26 ?_
    refine lv_topi (fun z_2 ez_2 => ?_)
    have ez_2 : z_2 = nI (N / 2) := by rw [ez_2]; exact hv_i1 N h2 (by omega)
    subst ez_2
    have e9 : nI N + (if nI 1 < nI (N / 2) then nI (N / 2) else nI 1) = nI (N + N / 2) := by
      by_cases c : 1 < N / 2
      · rw [if_pos (nI_lt c (by omega))]; exact nI_add N (N / 2)
      · rw [if_neg (nI_nlt (by omega) (by decide)), show N / 2 = 1 by omega]; exact nI_add N 1
    refine hv_ki I (va_runS (As := [.int (nI N), .int (nI 1), .int (nI (N / 2))]) (rest := []) C.fix (c_J8_newLength l G h _ (nI N) (nI 1) (nI (N / 2)) (by rw [e9]; exact nI_nle (by omega) (by omega)) (by rw [e9]; exact nI_nlt (a := 2147483639) (by omega) (by decide))) (va_cwS 3 C.2.2.2.2.1 gJx4a65c_grow_92f84_J8_newLength_cabcc rfl rfl rfl (by decide +kernel) ⟨Nat.le_of_ble_eq_true rfl, Nat.le_of_ble_eq_true rfl⟩) (hv_preS C I) rfl rfl hl.1 rfl (lv_room (Nat.le_of_ble_eq_true rfl)) dJx4a65c_grow_92f84_27 ⟨Nat.le_of_ble_eq_true rfl, Nat.le_of_ble_eq_true rfl⟩) (fun ru_3 u_3 H locs pu_3 I => ?_)
    obtain ⟨e1, e2⟩ := pu_3; have e1 := e1.symm; subst e1; have e2 := e2.symm; subst e2
    refine lv_topi (fun z_4 ez_4 => ?_)
    have ez_4 : z_4 = nI (N + N / 2) := by rw [ez_4]; exact e9
    subst ez_4
    refine lv_istore_n (lv' := [(3, .int (nI (N + N / 2))), (2, .int (nI N)), (0, .ref a), (1, .int (nI (N + 1)))]) C.1 C.2.1 dJx4a65c_grow_92f84_30 rfl hl (by decide) rfl (fun ls hl => ?_)
    refine lv_aload_n C.1 C.2.1 dJx4a65c_grow_92f84_31 rfl (lv_at hl 2 rfl) ?_
    refine lv_aload_n C.1 C.2.1 dJx4a65c_grow_92f84_32 rfl (lv_at hl 2 rfl) ?_
    refine hv_get (ci := 0) (Cn := RJx4a65c) (T := TJx4a65c) (N := 3) (ref := "java/util/ArrayList") (v := .ref t) C I fa wJx4a65c rfl 1 (by decide) (by decide +kernel) (fun _ h9 => h9) rfl dJx4a65c_grow_92f84_33 ?_
    refine lv_iload_n C.1 C.2.1 dJx4a65c_grow_92f84_36 rfl (lv_at hl 0 rfl) ?_
    refine hv_kq I (va_runS (As := [.ref t, .int (nI (N + N / 2))]) (rest := [.ref a]) C.fix (c_J7_copyOf2 l G h _ ft hel (N + N / 2) (by omega) (by omega)) (va_cwS 2 C.2.2.2.2.1 gJx4a65c_grow_92f84_J7_copyOf_1904c rfl rfl rfl (by decide +kernel) ⟨Nat.le_of_ble_eq_true rfl, Nat.le_of_ble_eq_true rfl⟩) (hv_preS C I) rfl rfl hl.1 rfl (lv_room (Nat.le_of_ble_eq_true rfl)) dJx4a65c_grow_92f84_37 ⟨Nat.le_of_ble_eq_true rfl, by show _ ≤ _; simp⟩) (fun ru_5 u_5 H locs pu_5 I => ?_)
    obtain ⟨q_6, nq_6, e1, eu_5⟩ := pu_5; have e1 := e1.symm; subst e1
    have fa9 : u_5 a = some (.inr (0, [.int mo, .ref t, .int n])) := by rw [eu_5, hv_up_ne (hv_neN fa nq_6)]; exact fa
    have ft9 : u_5 t = some (.inl (G.2.1 3, N, .inr (.inr (.inr (.inr f))))) := by rw [eu_5, hv_up_ne (hv_neN ft nq_6)]; exact ft
    have ne_ft_q_6 : t ≠ q_6 := hv_neN ft nq_6
    have fa := fa9
    have ft := ft9
    have fq_6 : u_5 q_6 = some (.inl (G.2.1 3, (N + N / 2), .inr (.inr (.inr (.inr (va_cpy f (fun _ => none) 0 0 N)))))) := by rw [eu_5]; exact hv_up_eq
    refine lv_dup_x1 C.1 C.2.1 dJx4a65c_grow_92f84_40 rfl rfl ?_
    refine hv_put (ci := 0) (Cn := RJx4a65c) (T := TJx4a65c) (N := 3) (ref := "java/util/ArrayList") (ty := .array (.object "java/lang/Object")) (v := .ref q_6) C I fa wJx4a65c tyJx4a65c tyJx4a65c_ok nmJx4a65c rfl 1 (by decide) (by decide +kernel) (fun _ h9 => h9) rfl (by decide +kernel) rfl rfl (Nat.le_of_ble_eq_true rfl) dJx4a65c_grow_92f84_41 (fun H locs I => ?_)
    have I : hv_I G h s (hv_up u_5 a (.inr (0, [.int mo, .ref q_6, .int n]))) H locs := I
    obtain ⟨h_7, eh_7⟩ : ∃ z, z = hv_up u_5 a (.inr (0, [.int mo, .ref q_6, .int n])) := ⟨_, rfl⟩
    have I : hv_I G h s h_7 H locs := by rw [eh_7]; exact I
    have fa9 : h_7 a = some (.inr (0, [.int mo, .ref q_6, .int n])) := by rw [eh_7]; exact hv_up_eq
    have ft9 : h_7 t = some (.inl (G.2.1 3, N, .inr (.inr (.inr (.inr f))))) := by rw [eh_7, hv_up_ne (hv_neAO ft fa)]; exact ft
    have fq_69 : h_7 q_6 = some (.inl (G.2.1 3, (N + N / 2), .inr (.inr (.inr (.inr (va_cpy f (fun _ => none) 0 0 N)))))) := by rw [eh_7, hv_up_ne (hv_neAO fq_6 fa)]; exact fq_6
    have fa := fa9
    have ft := ft9
    have fq_6 := fq_69
    exact hv_qret (r := some q_6) C hr (Or.inr ⟨_, rfl⟩) I (⟨q_6, nq_6, rfl, by simp only [eh_7, eu_5, hv_up_up]⟩) dJx4a65c_grow_92f84_44 (Nat.le_of_ble_eq_true rfl) (by simp)
  · exact absurd (show (0 : Int32) < nI N from nI_lt (a := 0) (by omega) (by omega)) c7

set_option maxHeartbeats 4000000 in
set_option maxRecDepth 100000 in
theorem c_AL_grow0_first (l : Launch) (G : hv_G) (h : hv) (sz : Nat) {a : Nat} {mo : Int32} (fa : h a = some (.inr (0, [.int mo, .ref (G.2.2 1), .int 0]))) : hv_Mq l yJx4a65c_grow_d5877 wsJx4a65c_grow_d5877 4 180 1 10 G h sz [.ref a] (fun r u => ∃ q : Nat, h q = none ∧ r = some q ∧ u = hv_up (hv_up h q (.inl (G.2.1 3, 10, .inr (.inr (.inr (.inr (fun _ => none))))))) a (.inr (0, [.int mo, .ref q, .int 0]))) := by
  have wJx4a65c : ∀ w ∈ wsJx4a65c0, w ∈ wsJx4a65c_grow_d5877 := by decide +kernel
  refine hv_enter (y := yJx4a65c_grow_d5877) (avs := [.ref a]) (maxL := 1) (Qf := fun sz => va_Qq (fun r u => ∃ q : Nat, h q = none ∧ r = some q ∧ u = hv_up (hv_up h q (.inl (G.2.1 3, 10, .inr (.inr (.inr (.inr (fun _ => none))))))) a (.inr (0, [.int mo, .ref q, .int 0]))) (hv_Bq G h sz) (hv_A h sz)) (by decide) rfl rfl (Nat.le_of_ble_eq_true rfl) ?_
  intro p e s m below meth c hr hnm C I ls hl
  have hl : lv_has ls 1 [(0, .ref a)] := hl
  refine lv_aload_n C.1 C.2.1 dJx4a65c_grow_d5877_0 rfl (lv_at hl 0 rfl) ?_
  refine lv_aload_n C.1 C.2.1 dJx4a65c_grow_d5877_1 rfl (lv_at hl 0 rfl) ?_
  refine hv_get (ci := 0) (Cn := RJx4a65c) (T := TJx4a65c) (N := 3) (ref := "java/util/ArrayList") (v := .int 0) C I fa wJx4a65c rfl 2 (by decide) (by decide +kernel) (fun _ h9 => h9) rfl dJx4a65c_grow_d5877_2 ?_
  refine lv_iconst (v := 1) C.1 C.2.1 dJx4a65c_grow_d5877_5 (by decide) ?_
  refine lv_iadd C.1 C.2.1 dJx4a65c_grow_d5877_6 ?_
  refine lv_topi (fun z_1 ez_1 => ?_)
  have ez_1 : z_1 = 1 := by rw [ez_1]; decide
  subst ez_1
  refine hv_kq I (va_runV (As := [.int 1]) (rest := []) C.fix (c_AL_growA_first l G h _ fa) (cwV 1 C.2.2.2.2.1 gJx4a65c_grow_d5877_Jx4a65c_grow_92f84 rfl rfl rfl (by decide +kernel) ⟨Nat.le_of_ble_eq_true rfl, Nat.le_of_ble_eq_true rfl⟩) (hv_preV C I fa (r := (RJx4a65c, TJx4a65c, 3)) rfl) rfl rfl hl.1 rfl (lv_room (Nat.le_of_ble_eq_true rfl)) dJx4a65c_grow_d5877_7 ⟨Nat.le_of_ble_eq_true rfl, Nat.le_of_ble_eq_true rfl⟩) (fun ru_2 u_2 H locs pu_2 I => ?_)
  obtain ⟨q_3, nq_3, e1, eu_2⟩ := pu_2; have e1 := e1.symm; subst e1
  have fa9 : u_2 a = some (.inr (0, [.int mo, .ref q_3, .int 0])) := by rw [eu_2]; exact hv_up_eq
  have fq_3 : u_2 q_3 = some (.inl (G.2.1 3, 10, .inr (.inr (.inr (.inr (fun _ => none)))))) := by rw [eu_2, hv_up_ne (Ne.symm (hv_neN fa nq_3))]; exact hv_up_eq
  have fa := fa9
  exact hv_qret (r := some q_3) C hr (Or.inr ⟨_, rfl⟩) I (⟨q_3, nq_3, rfl, eu_2⟩) dJx4a65c_grow_d5877_10 (Nat.le_of_ble_eq_true rfl) (Nat.le_of_ble_eq_true rfl)

set_option maxHeartbeats 4000000 in
set_option maxRecDepth 100000 in
theorem c_AL_add3_first (l : Launch) (G : hv_G) (h : hv) (sz : Nat) {a : Nat} {mo : Int32} (fa : h a = some (.inr (0, [.int mo, .ref (G.2.2 1), .int 0]))) {y ci : Nat} {vs : List Value} {rc : vw_C} (fy : h y = some (.inr (ci, vs))) (hci : vwCl[ci]? = some rc) (hca : Cond.castable rc.1 "java/lang/Object" ∈ hv_nw) (hci0 : ci ≠ 0) : hv_Mv l yJx4a65c_add_72be8 wsJx4a65c_add_72be8 5 210 1 10 G h sz [.ref a, .ref y, .ref (G.2.2 1), .int 0] (fun u => ∃ q : Nat, h q = none ∧ u = hv_up (hv_up h q (.inl (G.2.1 3, 10, .inr (.inr (.inr (.inr (va_up (fun _ => none) 0 (some y)))))))) a (.inr (0, [.int mo, .ref q, .int 1]))) := by
  have wJx4a65c : ∀ w ∈ wsJx4a65c0, w ∈ wsJx4a65c_add_72be8 := by decide +kernel
  refine hv_enter (y := yJx4a65c_add_72be8) (avs := [.ref a, .ref y, .ref (G.2.2 1), .int 0]) (maxL := 4) (Qf := fun sz => va_Qv (fun u => ∃ q : Nat, h q = none ∧ u = hv_up (hv_up h q (.inl (G.2.1 3, 10, .inr (.inr (.inr (.inr (va_up (fun _ => none) 0 (some y)))))))) a (.inr (0, [.int mo, .ref q, .int 1]))) (hv_Bq G h sz) (hv_A h sz)) (by decide) rfl rfl (Nat.le_of_ble_eq_true rfl) ?_
  intro p e s m below meth c hr hnm C I ls hl
  have hl : lv_has ls 4 [(0, .ref a), (1, .ref y), (2, .ref (G.2.2 1)), (3, .int 0)] := hl
  refine lv_iload_n C.1 C.2.1 dJx4a65c_add_72be8_0 rfl (lv_at hl 3 rfl) ?_
  refine lv_aload_n C.1 C.2.1 dJx4a65c_add_72be8_1 rfl (lv_at hl 2 rfl) ?_
  refine hv_tlen C I dJx4a65c_add_72be8_2 ?_
  refine lv_icmp_ne (tgt := 11) C.1 C.2.1 dJx4a65c_add_72be8_3 (by decide) (fun c3 => ?_) (fun c3 => ?_)
  · exact absurd (by decide) c3
  · refine lv_aload_n C.1 C.2.1 dJx4a65c_add_72be8_6 rfl (lv_at hl 0 rfl) ?_
    refine hv_kq I (va_runV (As := []) (rest := []) C.fix (c_AL_grow0_first l G h _ fa) (cwV 0 C.2.2.2.2.1 gJx4a65c_add_72be8_Jx4a65c_grow_d5877 rfl rfl rfl (by decide +kernel) ⟨Nat.le_of_ble_eq_true rfl, Nat.le_of_ble_eq_true rfl⟩) (hv_preV C I fa (r := (RJx4a65c, TJx4a65c, 3)) rfl) rfl rfl hl.1 rfl (lv_room (Nat.le_of_ble_eq_true rfl)) dJx4a65c_add_72be8_7 ⟨Nat.le_of_ble_eq_true rfl, Nat.le_of_ble_eq_true rfl⟩) (fun ru_1 u_1 H locs pu_1 I => ?_)
    obtain ⟨q_2, nq_2, e1, eu_1⟩ := pu_1; have e1 := e1.symm; subst e1
    have fa9 : u_1 a = some (.inr (0, [.int mo, .ref q_2, .int 0])) := by rw [eu_1]; exact hv_up_eq
    have fy9 : u_1 y = some (.inr (ci, vs)) := by rw [eu_1, hv_up_ne (hv_neO fy fa hci0), hv_up_ne (hv_neN fy nq_2)]; exact fy
    have fq_2 : u_1 q_2 = some (.inl (G.2.1 3, 10, .inr (.inr (.inr (.inr (fun _ => none)))))) := by rw [eu_1, hv_up_ne (Ne.symm (hv_neN fa nq_2))]; exact hv_up_eq
    have fa := fa9
    have fy := fy9
    refine lv_astore_n (lv' := [(2, .ref q_2), (0, .ref a), (1, .ref y), (3, .int 0)]) C.1 C.2.1 dJx4a65c_add_72be8_10 rfl hl (by decide) rfl (fun ls hl => ?_)
    have nea : q_2 ≠ a := hv_neAO fq_2 fa
    refine lv_aload_n C.1 C.2.1 dJx4a65c_add_72be8_11 rfl (lv_at hl 0 rfl) ?_
    refine lv_iload_n C.1 C.2.1 dJx4a65c_add_72be8_12 rfl (lv_at hl 3 rfl) ?_
    refine lv_aload_n C.1 C.2.1 dJx4a65c_add_72be8_13 rfl (lv_at hl 2 rfl) ?_
    refine hv_oast C I fq_2 fy hci hca (hv_in 10 (by decide) (by decide) (by decide)) dJx4a65c_add_72be8_14 (fun H locs I => ?_)
    obtain ⟨h_3, eh_3⟩ : ∃ z, z = hv_up u_1 q_2 (.inl (G.2.1 3, 10, .inr (.inr (.inr (.inr (va_up (fun _ => none) (0 : Int32).toNatClampNeg (some y))))))) := ⟨_, rfl⟩
    have I : hv_I G h s h_3 H locs := by rw [eh_3]; exact I
    have fa9 : h_3 a = some (.inr (0, [.int mo, .ref q_2, .int 0])) := by rw [eh_3, hv_up_ne (hv_neOA fa fq_2)]; exact fa
    have fy9 : h_3 y = some (.inr (ci, vs)) := by rw [eh_3, hv_up_ne (hv_neOA fy fq_2)]; exact fy
    have fq_29 : h_3 q_2 = some (.inl (G.2.1 3, 10, .inr (.inr (.inr (.inr (va_up (fun _ => none) (0 : Int32).toNatClampNeg (some y))))))) := by rw [eh_3]; exact hv_up_eq
    have fa := fa9
    have fy := fy9
    have fq_2 := fq_29
    refine lv_aload_n C.1 C.2.1 dJx4a65c_add_72be8_15 rfl (lv_at hl 1 rfl) ?_
    refine lv_iload_n C.1 C.2.1 dJx4a65c_add_72be8_16 rfl (lv_at hl 3 rfl) ?_
    refine lv_iconst (v := 1) C.1 C.2.1 dJx4a65c_add_72be8_17 (by decide) ?_
    refine lv_iadd C.1 C.2.1 dJx4a65c_add_72be8_18 ?_
    refine lv_topi (fun z_4 ez_4 => ?_)
    have ez_4 : z_4 = 1 := by rw [ez_4]; decide
    subst ez_4
    refine hv_put (ci := 0) (Cn := RJx4a65c) (T := TJx4a65c) (N := 3) (ref := "java/util/ArrayList") (ty := .int) (v := .int 1) C I fa wJx4a65c tyJx4a65c tyJx4a65c_ok nmJx4a65c rfl 2 (by decide) (by decide +kernel) (fun _ h9 => h9) rfl (by decide +kernel) rfl rfl (Nat.le_of_ble_eq_true rfl) dJx4a65c_add_72be8_19 (fun H locs I => ?_)
    have I : hv_I G h s (hv_up h_3 a (.inr (0, [.int mo, .ref q_2, .int 1]))) H locs := I
    obtain ⟨h_5, eh_5⟩ : ∃ z, z = hv_up h_3 a (.inr (0, [.int mo, .ref q_2, .int 1])) := ⟨_, rfl⟩
    have I : hv_I G h s h_5 H locs := by rw [eh_5]; exact I
    have fa9 : h_5 a = some (.inr (0, [.int mo, .ref q_2, .int 1])) := by rw [eh_5]; exact hv_up_eq
    have fy9 : h_5 y = some (.inr (ci, vs)) := by rw [eh_5, hv_up_ne (hv_neO fy fa hci0)]; exact fy
    have fq_29 : h_5 q_2 = some (.inl (G.2.1 3, 10, .inr (.inr (.inr (.inr (va_up (fun _ => none) (0 : Int32).toNatClampNeg (some y))))))) := by rw [eh_5, hv_up_ne (hv_neAO fq_2 fa)]; exact fq_2
    have fa := fa9
    have fy := fy9
    have fq_2 := fq_29
    exact hv_vret C hr I (⟨q_2, nq_2, by rw [eh_5, eh_3, eu_1, hv_up_comm (Ne.symm nea), hv_up_up, hv_up_up, sb_cl0]⟩) dJx4a65c_add_72be8_22 (Nat.le_of_ble_eq_true rfl) (Nat.le_of_ble_eq_true rfl)

set_option maxHeartbeats 4000000 in
set_option maxRecDepth 100000 in
theorem c_AL_add_first (l : Launch) (G : hv_G) (h : hv) (sz : Nat) {a : Nat} {mo : Int32} (fa : h a = some (.inr (0, [.int mo, .ref (G.2.2 1), .int 0]))) {y ci : Nat} {vs : List Value} {rc : vw_C} (fy : h y = some (.inr (ci, vs))) (hci : vwCl[ci]? = some rc) (hca : Cond.castable rc.1 "java/lang/Object" ∈ hv_nw) (hci0 : ci ≠ 0) : hv_Mi l yJx4a65c_add_9ea2d wsJx4a65c_add_9ea2d 6 240 1 10 G h sz [.ref a, .ref y] (fun r u => r = 1 ∧ ∃ q : Nat, h q = none ∧ u = hv_up (hv_up h q (.inl (G.2.1 3, 10, .inr (.inr (.inr (.inr (va_up (fun _ => none) 0 (some y)))))))) a (.inr (0, [.int (mo + 1), .ref q, .int 1]))) := by
  have wJx4a65c : ∀ w ∈ wsJx4a65c0, w ∈ wsJx4a65c_add_9ea2d := by decide +kernel
  refine hv_enter (y := yJx4a65c_add_9ea2d) (avs := [.ref a, .ref y]) (maxL := 2) (Qf := fun sz => va_Qi (fun r u => r = 1 ∧ ∃ q : Nat, h q = none ∧ u = hv_up (hv_up h q (.inl (G.2.1 3, 10, .inr (.inr (.inr (.inr (va_up (fun _ => none) 0 (some y)))))))) a (.inr (0, [.int (mo + 1), .ref q, .int 1]))) (hv_Bq G h sz) (hv_A h sz)) (by decide) rfl rfl (Nat.le_of_ble_eq_true rfl) ?_
  intro p e s m below meth c hr hnm C I ls hl
  have hl : lv_has ls 2 [(0, .ref a), (1, .ref y)] := hl
  refine lv_aload_n C.1 C.2.1 dJx4a65c_add_9ea2d_0 rfl (lv_at hl 0 rfl) ?_
  refine lv_dup C.1 C.2.1 dJx4a65c_add_9ea2d_1 rfl ?_
  have fa0 := fa
  refine hv_get (ci := 0) (Cn := RJx4a65c) (T := TJx4a65c) (N := 3) (ref := "java/util/ArrayList") (v := .int mo) C I fa wJx4a65c rfl 0 (by decide) (by decide +kernel) (u_same (C.ts (w := .sameField "java/util/ArrayList" "java/util/AbstractList" "modCount" "I") (by decide +kernel))) rfl dJx4a65c_add_9ea2d_2 ?_
  refine lv_iconst (v := 1) C.1 C.2.1 dJx4a65c_add_9ea2d_5 (by decide) ?_
  refine lv_iadd C.1 C.2.1 dJx4a65c_add_9ea2d_6 ?_
  refine hv_put (ci := 0) (Cn := RJx4a65c) (T := TJx4a65c) (N := 3) (ref := "java/util/ArrayList") (ty := .int) (v := .int (mo + 1)) C I fa wJx4a65c tyJx4a65c tyJx4a65c_ok nmJx4a65c rfl 0 (by decide) (by decide +kernel) (u_same (C.ts (w := .sameField "java/util/ArrayList" "java/util/AbstractList" "modCount" "I") (by decide +kernel))) rfl (by decide +kernel) rfl rfl (Nat.le_of_ble_eq_true rfl) dJx4a65c_add_9ea2d_7 (fun H locs I => ?_)
  have I : hv_I G h s (hv_up h a (.inr (0, [.int (mo + 1), .ref (G.2.2 1), .int 0]))) H locs := I
  obtain ⟨h_1, eh_1⟩ : ∃ z, z = hv_up h a (.inr (0, [.int (mo + 1), .ref (G.2.2 1), .int 0])) := ⟨_, rfl⟩
  have I : hv_I G h s h_1 H locs := by rw [eh_1]; exact I
  have fa9 : h_1 a = some (.inr (0, [.int (mo + 1), .ref (G.2.2 1), .int 0])) := by rw [eh_1]; exact hv_up_eq
  have fy9 : h_1 y = some (.inr (ci, vs)) := by rw [eh_1, hv_up_ne (hv_neO fy fa hci0)]; exact fy
  have fa := fa9
  have fy := fy9
  have ehX := eh_1
  refine lv_aload_n C.1 C.2.1 dJx4a65c_add_9ea2d_10 rfl (lv_at hl 0 rfl) ?_
  refine lv_aload_n C.1 C.2.1 dJx4a65c_add_9ea2d_11 rfl (lv_at hl 1 rfl) ?_
  refine lv_aload_n C.1 C.2.1 dJx4a65c_add_9ea2d_12 rfl (lv_at hl 0 rfl) ?_
  refine hv_get (ci := 0) (Cn := RJx4a65c) (T := TJx4a65c) (N := 3) (ref := "java/util/ArrayList") (v := .ref (G.2.2 1)) C I fa wJx4a65c rfl 1 (by decide) (by decide +kernel) (fun _ h9 => h9) rfl dJx4a65c_add_9ea2d_13 ?_
  refine lv_aload_n C.1 C.2.1 dJx4a65c_add_9ea2d_16 rfl (lv_at hl 0 rfl) ?_
  refine hv_get (ci := 0) (Cn := RJx4a65c) (T := TJx4a65c) (N := 3) (ref := "java/util/ArrayList") (v := .int 0) C I fa wJx4a65c rfl 2 (by decide) (by decide +kernel) (fun _ h9 => h9) rfl dJx4a65c_add_9ea2d_17 ?_
  refine hv_kv I (va_runV (As := [.ref y, .ref (G.2.2 1), .int 0]) (rest := []) C.fix (c_AL_add3_first l G h_1 _ fa fy hci hca hci0) (cwV 3 C.2.2.2.2.1 gJx4a65c_add_9ea2d_Jx4a65c_add_72be8 rfl rfl rfl (by decide +kernel) ⟨Nat.le_of_ble_eq_true rfl, Nat.le_of_ble_eq_true rfl⟩) (hv_preV C I fa (r := (RJx4a65c, TJx4a65c, 3)) rfl) rfl rfl hl.1 rfl (lv_room (Nat.le_of_ble_eq_true rfl)) dJx4a65c_add_9ea2d_20 ⟨Nat.le_of_ble_eq_true rfl, Nat.le_of_ble_eq_true rfl⟩) (fun u_2 H locs pu_2 I => ?_)
  obtain ⟨q_3, nq_3, eu_2⟩ := pu_2
  have nea : a ≠ q_3 := hv_neN fa nq_3
  refine lv_iconst (v := 1) C.1 C.2.1 dJx4a65c_add_9ea2d_23 (by decide) ?_
  exact hv_zret (v := 1) C hr I rfl (⟨rfl, q_3, by rw [eh_1, hv_up_ne (Ne.symm nea)] at nq_3; exact nq_3, by rw [eu_2, eh_1, hv_up_comm nea, hv_up_up]⟩) dJx4a65c_add_9ea2d_24 (Nat.le_of_ble_eq_true rfl) (Nat.le_of_ble_eq_true rfl)

set_option maxHeartbeats 4000000 in
set_option maxRecDepth 100000 in
theorem c_AL_grow0_more (l : Launch) (G : hv_G) (h : hv) (sz : Nat) {a : Nat} {mo : Int32} {t N : Nat} {f : Nat → Option Nat} (ft : h t = some (.inl (G.2.1 3, N, .inr (.inr (.inr (.inr f)))))) (hel : hv_El h f N) (h2 : 2 ≤ N) (hN : N ≤ 600) (fa : h a = some (.inr (0, [.int mo, .ref t, .int (nI N)]))) : hv_Mq l yJx4a65c_grow_d5877 wsJx4a65c_grow_d5877 4 180 1 (N + N / 2) G h sz [.ref a] (fun r u => ∃ q : Nat, h q = none ∧ r = some q ∧ u = hv_up (hv_up h q (.inl (G.2.1 3, (N + N / 2), .inr (.inr (.inr (.inr (va_cpy f (fun _ => none) 0 0 N))))))) a (.inr (0, [.int mo, .ref q, .int (nI N)]))) := by
  have wJx4a65c : ∀ w ∈ wsJx4a65c0, w ∈ wsJx4a65c_grow_d5877 := by decide +kernel
  refine hv_enter (y := yJx4a65c_grow_d5877) (avs := [.ref a]) (maxL := 1) (Qf := fun sz => va_Qq (fun r u => ∃ q : Nat, h q = none ∧ r = some q ∧ u = hv_up (hv_up h q (.inl (G.2.1 3, (N + N / 2), .inr (.inr (.inr (.inr (va_cpy f (fun _ => none) 0 0 N))))))) a (.inr (0, [.int mo, .ref q, .int (nI N)]))) (hv_Bq G h sz) (hv_A h sz)) (by decide) rfl rfl (Nat.le_of_ble_eq_true rfl) ?_
  intro p e s m below meth c hr hnm C I ls hl
  have hl : lv_has ls 1 [(0, .ref a)] := hl
  refine lv_aload_n C.1 C.2.1 dJx4a65c_grow_d5877_0 rfl (lv_at hl 0 rfl) ?_
  refine lv_aload_n C.1 C.2.1 dJx4a65c_grow_d5877_1 rfl (lv_at hl 0 rfl) ?_
  refine hv_get (ci := 0) (Cn := RJx4a65c) (T := TJx4a65c) (N := 3) (ref := "java/util/ArrayList") (v := .int (nI N)) C I fa wJx4a65c rfl 2 (by decide) (by decide +kernel) (fun _ h9 => h9) rfl dJx4a65c_grow_d5877_2 ?_
  refine lv_iconst (v := 1) C.1 C.2.1 dJx4a65c_grow_d5877_5 (by decide) ?_
  refine lv_iadd C.1 C.2.1 dJx4a65c_grow_d5877_6 ?_
  refine lv_topi (fun z_1 ez_1 => ?_)
  have ez_1 : z_1 = nI (N + 1) := by rw [ez_1]; exact nI_1 N
  subst ez_1
  refine hv_kq I (va_runV (As := [.int (nI (N + 1))]) (rest := []) C.fix (c_AL_growA_more l G h _ ft hel h2 hN fa) (cwV 1 C.2.2.2.2.1 gJx4a65c_grow_d5877_Jx4a65c_grow_92f84 rfl rfl rfl (by decide +kernel) ⟨Nat.le_of_ble_eq_true rfl, Nat.le_of_ble_eq_true rfl⟩) (hv_preV C I fa (r := (RJx4a65c, TJx4a65c, 3)) rfl) rfl rfl hl.1 rfl (lv_room (Nat.le_of_ble_eq_true rfl)) dJx4a65c_grow_d5877_7 ⟨Nat.le_of_ble_eq_true rfl, by show _ ≤ _; simp⟩) (fun ru_2 u_2 H locs pu_2 I => ?_)
  obtain ⟨q_3, nq_3, e1, eu_2⟩ := pu_2; have e1 := e1.symm; subst e1
  have fa9 : u_2 a = some (.inr (0, [.int mo, .ref q_3, .int (nI N)])) := by rw [eu_2]; exact hv_up_eq
  have ft9 : u_2 t = some (.inl (G.2.1 3, N, .inr (.inr (.inr (.inr f))))) := by rw [eu_2, hv_up_ne (hv_neAO ft fa), hv_up_ne (hv_neN ft nq_3)]; exact ft
  have ne_ft_q_3 : t ≠ q_3 := hv_neN ft nq_3
  have fq_3 : u_2 q_3 = some (.inl (G.2.1 3, (N + N / 2), .inr (.inr (.inr (.inr (va_cpy f (fun _ => none) 0 0 N)))))) := by rw [eu_2, hv_up_ne (Ne.symm (hv_neN fa nq_3))]; exact hv_up_eq
  have fa := fa9
  have ft := ft9
  exact hv_qret (r := some q_3) C hr (Or.inr ⟨_, rfl⟩) I (⟨q_3, nq_3, rfl, eu_2⟩) dJx4a65c_grow_d5877_10 (Nat.le_of_ble_eq_true rfl) (by simp)

set_option maxHeartbeats 4000000 in
set_option maxRecDepth 100000 in
theorem c_AL_add3_more (l : Launch) (G : hv_G) (h : hv) (sz : Nat) {a : Nat} {mo : Int32} {t N : Nat} {f : Nat → Option Nat} (ft : h t = some (.inl (G.2.1 3, N, .inr (.inr (.inr (.inr f)))))) (hel : hv_El h f N) (h2 : 2 ≤ N) (hN : N ≤ 600) (fa : h a = some (.inr (0, [.int mo, .ref t, .int (nI N)]))) {y ci : Nat} {vs : List Value} {rc : vw_C} (fy : h y = some (.inr (ci, vs))) (hci : vwCl[ci]? = some rc) (hca : Cond.castable rc.1 "java/lang/Object" ∈ hv_nw) (hci0 : ci ≠ 0) : hv_Mv l yJx4a65c_add_72be8 wsJx4a65c_add_72be8 5 210 1 (N + N / 2) G h sz [.ref a, .ref y, .ref t, .int (nI N)] (fun u => ∃ q : Nat, h q = none ∧ u = hv_up (hv_up h q (.inl (G.2.1 3, (N + N / 2), .inr (.inr (.inr (.inr (va_up (va_cpy f (fun _ => none) 0 0 N) N (some y)))))))) a (.inr (0, [.int mo, .ref q, .int (nI (N + 1))]))) := by
  have wJx4a65c : ∀ w ∈ wsJx4a65c0, w ∈ wsJx4a65c_add_72be8 := by decide +kernel
  refine hv_enter (y := yJx4a65c_add_72be8) (avs := [.ref a, .ref y, .ref t, .int (nI N)]) (maxL := 4) (Qf := fun sz => va_Qv (fun u => ∃ q : Nat, h q = none ∧ u = hv_up (hv_up h q (.inl (G.2.1 3, (N + N / 2), .inr (.inr (.inr (.inr (va_up (va_cpy f (fun _ => none) 0 0 N) N (some y)))))))) a (.inr (0, [.int mo, .ref q, .int (nI (N + 1))]))) (hv_Bq G h sz) (hv_A h sz)) (by decide) rfl rfl (Nat.le_of_ble_eq_true rfl) ?_
  intro p e s m below meth c hr hnm C I ls hl
  have hl : lv_has ls 4 [(0, .ref a), (1, .ref y), (2, .ref t), (3, .int (nI N))] := hl
  refine lv_iload_n C.1 C.2.1 dJx4a65c_add_72be8_0 rfl (lv_at hl 3 rfl) ?_
  refine lv_aload_n C.1 C.2.1 dJx4a65c_add_72be8_1 rfl (lv_at hl 2 rfl) ?_
  refine hv_alen (v := nI N) C I ft 3 rfl rfl dJx4a65c_add_72be8_2 ?_
  refine lv_icmp_ne (tgt := 11) C.1 C.2.1 dJx4a65c_add_72be8_3 (by decide) (fun c3 => ?_) (fun c3 => ?_)
  · exact absurd rfl c3
  · refine lv_aload_n C.1 C.2.1 dJx4a65c_add_72be8_6 rfl (lv_at hl 0 rfl) ?_
    refine hv_kq I (va_runV (As := []) (rest := []) C.fix (c_AL_grow0_more l G h _ ft hel h2 hN fa) (cwV 0 C.2.2.2.2.1 gJx4a65c_add_72be8_Jx4a65c_grow_d5877 rfl rfl rfl (by decide +kernel) ⟨Nat.le_of_ble_eq_true rfl, Nat.le_of_ble_eq_true rfl⟩) (hv_preV C I fa (r := (RJx4a65c, TJx4a65c, 3)) rfl) rfl rfl hl.1 rfl (lv_room (Nat.le_of_ble_eq_true rfl)) dJx4a65c_add_72be8_7 ⟨Nat.le_of_ble_eq_true rfl, by show _ ≤ _; simp⟩) (fun ru_1 u_1 H locs pu_1 I => ?_)
    obtain ⟨q_2, nq_2, e1, eu_1⟩ := pu_1; have e1 := e1.symm; subst e1
    have fa9 : u_1 a = some (.inr (0, [.int mo, .ref q_2, .int (nI N)])) := by rw [eu_1]; exact hv_up_eq
    have ft9 : u_1 t = some (.inl (G.2.1 3, N, .inr (.inr (.inr (.inr f))))) := by rw [eu_1, hv_up_ne (hv_neAO ft fa), hv_up_ne (hv_neN ft nq_2)]; exact ft
    have ne_ft_q_2 : t ≠ q_2 := hv_neN ft nq_2
    have fy9 : u_1 y = some (.inr (ci, vs)) := by rw [eu_1, hv_up_ne (hv_neO fy fa hci0), hv_up_ne (hv_neN fy nq_2)]; exact fy
    have fq_2 : u_1 q_2 = some (.inl (G.2.1 3, (N + N / 2), .inr (.inr (.inr (.inr (va_cpy f (fun _ => none) 0 0 N)))))) := by rw [eu_1, hv_up_ne (Ne.symm (hv_neN fa nq_2))]; exact hv_up_eq
    have fa := fa9
    have ft := ft9
    have fy := fy9
    refine lv_astore_n (lv' := [(2, .ref q_2), (0, .ref a), (1, .ref y), (3, .int (nI N))]) C.1 C.2.1 dJx4a65c_add_72be8_10 rfl hl (by decide) rfl (fun ls hl => ?_)
    have nea : q_2 ≠ a := hv_neAO fq_2 fa
    refine lv_aload_n C.1 C.2.1 dJx4a65c_add_72be8_11 rfl (lv_at hl 0 rfl) ?_
    refine lv_iload_n C.1 C.2.1 dJx4a65c_add_72be8_12 rfl (lv_at hl 3 rfl) ?_
    refine lv_aload_n C.1 C.2.1 dJx4a65c_add_72be8_13 rfl (lv_at hl 2 rfl) ?_
    refine hv_oast C I fq_2 fy hci hca (vp_in_nI (show N < N + N / 2 by omega) (by omega)) dJx4a65c_add_72be8_14 (fun H locs I => ?_)
    obtain ⟨h_3, eh_3⟩ : ∃ z, z = hv_up u_1 q_2 (.inl (G.2.1 3, (N + N / 2), .inr (.inr (.inr (.inr (va_up (va_cpy f (fun _ => none) 0 0 N) (nI N).toNatClampNeg (some y))))))) := ⟨_, rfl⟩
    have I : hv_I G h s h_3 H locs := by rw [eh_3]; exact I
    have fa9 : h_3 a = some (.inr (0, [.int mo, .ref q_2, .int (nI N)])) := by rw [eh_3, hv_up_ne (hv_neOA fa fq_2)]; exact fa
    have ft9 : h_3 t = some (.inl (G.2.1 3, N, .inr (.inr (.inr (.inr f))))) := by rw [eh_3, hv_up_ne ne_ft_q_2]; exact ft
    have fy9 : h_3 y = some (.inr (ci, vs)) := by rw [eh_3, hv_up_ne (hv_neOA fy fq_2)]; exact fy
    have fq_29 : h_3 q_2 = some (.inl (G.2.1 3, (N + N / 2), .inr (.inr (.inr (.inr (va_up (va_cpy f (fun _ => none) 0 0 N) (nI N).toNatClampNeg (some y))))))) := by rw [eh_3]; exact hv_up_eq
    have fa := fa9
    have ft := ft9
    have fy := fy9
    have fq_2 := fq_29
    refine lv_aload_n C.1 C.2.1 dJx4a65c_add_72be8_15 rfl (lv_at hl 1 rfl) ?_
    refine lv_iload_n C.1 C.2.1 dJx4a65c_add_72be8_16 rfl (lv_at hl 3 rfl) ?_
    refine lv_iconst (v := 1) C.1 C.2.1 dJx4a65c_add_72be8_17 (by decide) ?_
    refine lv_iadd C.1 C.2.1 dJx4a65c_add_72be8_18 ?_
    refine lv_topi (fun z_4 ez_4 => ?_)
    have ez_4 : z_4 = nI (N + 1) := by rw [ez_4]; exact nI_1 N
    subst ez_4
    refine hv_put (ci := 0) (Cn := RJx4a65c) (T := TJx4a65c) (N := 3) (ref := "java/util/ArrayList") (ty := .int) (v := .int (nI (N + 1))) C I fa wJx4a65c tyJx4a65c tyJx4a65c_ok nmJx4a65c rfl 2 (by decide) (by decide +kernel) (fun _ h9 => h9) rfl (by decide +kernel) rfl rfl (Nat.le_of_ble_eq_true rfl) dJx4a65c_add_72be8_19 (fun H locs I => ?_)
    have I : hv_I G h s (hv_up h_3 a (.inr (0, [.int mo, .ref q_2, .int (nI (N + 1))]))) H locs := I
    obtain ⟨h_5, eh_5⟩ : ∃ z, z = hv_up h_3 a (.inr (0, [.int mo, .ref q_2, .int (nI (N + 1))])) := ⟨_, rfl⟩
    have I : hv_I G h s h_5 H locs := by rw [eh_5]; exact I
    have fa9 : h_5 a = some (.inr (0, [.int mo, .ref q_2, .int (nI (N + 1))])) := by rw [eh_5]; exact hv_up_eq
    have ft9 : h_5 t = some (.inl (G.2.1 3, N, .inr (.inr (.inr (.inr f))))) := by rw [eh_5, hv_up_ne (hv_neAO ft fa)]; exact ft
    have fy9 : h_5 y = some (.inr (ci, vs)) := by rw [eh_5, hv_up_ne (hv_neO fy fa hci0)]; exact fy
    have fq_29 : h_5 q_2 = some (.inl (G.2.1 3, (N + N / 2), .inr (.inr (.inr (.inr (va_up (va_cpy f (fun _ => none) 0 0 N) (nI N).toNatClampNeg (some y))))))) := by rw [eh_5, hv_up_ne (hv_neAO fq_2 fa)]; exact fq_2
    have fa := fa9
    have ft := ft9
    have fy := fy9
    have fq_2 := fq_29
    exact hv_vret C hr I (⟨q_2, nq_2, by rw [eh_5, eh_3, eu_1, hv_up_comm (Ne.symm nea), hv_up_up, hv_up_up, nI_clamp (by omega)]⟩) dJx4a65c_add_72be8_22 (Nat.le_of_ble_eq_true rfl) (by simp)

set_option maxHeartbeats 4000000 in
set_option maxRecDepth 100000 in
theorem c_AL_add_more (l : Launch) (G : hv_G) (h : hv) (sz : Nat) {a : Nat} {mo : Int32} {t N : Nat} {f : Nat → Option Nat} (ft : h t = some (.inl (G.2.1 3, N, .inr (.inr (.inr (.inr f)))))) (hel : hv_El h f N) (h2 : 2 ≤ N) (hN : N ≤ 600) (fa : h a = some (.inr (0, [.int mo, .ref t, .int (nI N)]))) {y ci : Nat} {vs : List Value} {rc : vw_C} (fy : h y = some (.inr (ci, vs))) (hci : vwCl[ci]? = some rc) (hca : Cond.castable rc.1 "java/lang/Object" ∈ hv_nw) (hci0 : ci ≠ 0) : hv_Mi l yJx4a65c_add_9ea2d wsJx4a65c_add_9ea2d 6 240 1 (N + N / 2) G h sz [.ref a, .ref y] (fun r u => r = 1 ∧ ∃ q : Nat, h q = none ∧ u = hv_up (hv_up h q (.inl (G.2.1 3, (N + N / 2), .inr (.inr (.inr (.inr (va_up (va_cpy f (fun _ => none) 0 0 N) N (some y)))))))) a (.inr (0, [.int (mo + 1), .ref q, .int (nI (N + 1))]))) := by
  have wJx4a65c : ∀ w ∈ wsJx4a65c0, w ∈ wsJx4a65c_add_9ea2d := by decide +kernel
  refine hv_enter (y := yJx4a65c_add_9ea2d) (avs := [.ref a, .ref y]) (maxL := 2) (Qf := fun sz => va_Qi (fun r u => r = 1 ∧ ∃ q : Nat, h q = none ∧ u = hv_up (hv_up h q (.inl (G.2.1 3, (N + N / 2), .inr (.inr (.inr (.inr (va_up (va_cpy f (fun _ => none) 0 0 N) N (some y)))))))) a (.inr (0, [.int (mo + 1), .ref q, .int (nI (N + 1))]))) (hv_Bq G h sz) (hv_A h sz)) (by decide) rfl rfl (Nat.le_of_ble_eq_true rfl) ?_
  intro p e s m below meth c hr hnm C I ls hl
  have hl : lv_has ls 2 [(0, .ref a), (1, .ref y)] := hl
  refine lv_aload_n C.1 C.2.1 dJx4a65c_add_9ea2d_0 rfl (lv_at hl 0 rfl) ?_
  refine lv_dup C.1 C.2.1 dJx4a65c_add_9ea2d_1 rfl ?_
  have fa0 := fa
  refine hv_get (ci := 0) (Cn := RJx4a65c) (T := TJx4a65c) (N := 3) (ref := "java/util/ArrayList") (v := .int mo) C I fa wJx4a65c rfl 0 (by decide) (by decide +kernel) (u_same (C.ts (w := .sameField "java/util/ArrayList" "java/util/AbstractList" "modCount" "I") (by decide +kernel))) rfl dJx4a65c_add_9ea2d_2 ?_
  refine lv_iconst (v := 1) C.1 C.2.1 dJx4a65c_add_9ea2d_5 (by decide) ?_
  refine lv_iadd C.1 C.2.1 dJx4a65c_add_9ea2d_6 ?_
  refine hv_put (ci := 0) (Cn := RJx4a65c) (T := TJx4a65c) (N := 3) (ref := "java/util/ArrayList") (ty := .int) (v := .int (mo + 1)) C I fa wJx4a65c tyJx4a65c tyJx4a65c_ok nmJx4a65c rfl 0 (by decide) (by decide +kernel) (u_same (C.ts (w := .sameField "java/util/ArrayList" "java/util/AbstractList" "modCount" "I") (by decide +kernel))) rfl (by decide +kernel) rfl rfl (Nat.le_of_ble_eq_true rfl) dJx4a65c_add_9ea2d_7 (fun H locs I => ?_)
  have I : hv_I G h s (hv_up h a (.inr (0, [.int (mo + 1), .ref t, .int (nI N)]))) H locs := I
  obtain ⟨h_1, eh_1⟩ : ∃ z, z = hv_up h a (.inr (0, [.int (mo + 1), .ref t, .int (nI N)])) := ⟨_, rfl⟩
  have I : hv_I G h s h_1 H locs := by rw [eh_1]; exact I
  have fa9 : h_1 a = some (.inr (0, [.int (mo + 1), .ref t, .int (nI N)])) := by rw [eh_1]; exact hv_up_eq
  have ft9 : h_1 t = some (.inl (G.2.1 3, N, .inr (.inr (.inr (.inr f))))) := by rw [eh_1, hv_up_ne (hv_neAO ft fa)]; exact ft
  have fy9 : h_1 y = some (.inr (ci, vs)) := by rw [eh_1, hv_up_ne (hv_neO fy fa hci0)]; exact fy
  have fa := fa9
  have ft := ft9
  have fy := fy9
  have ehX := eh_1
  refine lv_aload_n C.1 C.2.1 dJx4a65c_add_9ea2d_10 rfl (lv_at hl 0 rfl) ?_
  refine lv_aload_n C.1 C.2.1 dJx4a65c_add_9ea2d_11 rfl (lv_at hl 1 rfl) ?_
  refine lv_aload_n C.1 C.2.1 dJx4a65c_add_9ea2d_12 rfl (lv_at hl 0 rfl) ?_
  refine hv_get (ci := 0) (Cn := RJx4a65c) (T := TJx4a65c) (N := 3) (ref := "java/util/ArrayList") (v := .ref t) C I fa wJx4a65c rfl 1 (by decide) (by decide +kernel) (fun _ h9 => h9) rfl dJx4a65c_add_9ea2d_13 ?_
  refine lv_aload_n C.1 C.2.1 dJx4a65c_add_9ea2d_16 rfl (lv_at hl 0 rfl) ?_
  refine hv_get (ci := 0) (Cn := RJx4a65c) (T := TJx4a65c) (N := 3) (ref := "java/util/ArrayList") (v := .int (nI N)) C I fa wJx4a65c rfl 2 (by decide) (by decide +kernel) (fun _ h9 => h9) rfl dJx4a65c_add_9ea2d_17 ?_
  refine hv_kv I (va_runV (As := [.ref y, .ref t, .int (nI N)]) (rest := []) C.fix (c_AL_add3_more l G h_1 _ ft (hv_El_up hel ehX fa0) h2 hN fa fy hci hca hci0) (cwV 3 C.2.2.2.2.1 gJx4a65c_add_9ea2d_Jx4a65c_add_72be8 rfl rfl rfl (by decide +kernel) ⟨Nat.le_of_ble_eq_true rfl, Nat.le_of_ble_eq_true rfl⟩) (hv_preV C I fa (r := (RJx4a65c, TJx4a65c, 3)) rfl) rfl rfl hl.1 rfl (lv_room (Nat.le_of_ble_eq_true rfl)) dJx4a65c_add_9ea2d_20 ⟨Nat.le_of_ble_eq_true rfl, by show _ ≤ _; simp⟩) (fun u_2 H locs pu_2 I => ?_)
  obtain ⟨q_3, nq_3, eu_2⟩ := pu_2
  have nea : a ≠ q_3 := hv_neN fa nq_3
  refine lv_iconst (v := 1) C.1 C.2.1 dJx4a65c_add_9ea2d_23 (by decide) ?_
  exact hv_zret (v := 1) C hr I rfl (⟨rfl, q_3, by rw [eh_1, hv_up_ne (Ne.symm nea)] at nq_3; exact nq_3, by rw [eu_2, eh_1, hv_up_comm nea, hv_up_up]⟩) dJx4a65c_add_9ea2d_24 (Nat.le_of_ble_eq_true rfl) (by simp)

set_option maxHeartbeats 4000000 in
set_option maxRecDepth 100000 in
theorem c_AL_add3_room (l : Launch) (G : hv_G) (h : hv) (sz : Nat) {a : Nat} {mo : Int32} {t N n : Nat} {f : Nat → Option Nat} (ft : h t = some (.inl (G.2.1 3, N, .inr (.inr (.inr (.inr f)))))) (hn : n < N) (hN : N ≤ 600) (fa : h a = some (.inr (0, [.int mo, .ref t, .int (nI n)]))) {y ci : Nat} {vs : List Value} {rc : vw_C} (fy : h y = some (.inr (ci, vs))) (hci : vwCl[ci]? = some rc) (hca : Cond.castable rc.1 "java/lang/Object" ∈ hv_nw) (hci0 : ci ≠ 0) : hv_Mv l yJx4a65c_add_72be8 wsJx4a65c_add_72be8 5 210 0 0 G h sz [.ref a, .ref y, .ref t, .int (nI n)] (fun u => u = hv_up (hv_up h t (.inl (G.2.1 3, N, .inr (.inr (.inr (.inr (va_up f n (some y)))))))) a (.inr (0, [.int mo, .ref t, .int (nI (n + 1))]))) := by
  have wJx4a65c : ∀ w ∈ wsJx4a65c0, w ∈ wsJx4a65c_add_72be8 := by decide +kernel
  refine hv_enter (y := yJx4a65c_add_72be8) (avs := [.ref a, .ref y, .ref t, .int (nI n)]) (maxL := 4) (Qf := fun sz => va_Qv (fun u => u = hv_up (hv_up h t (.inl (G.2.1 3, N, .inr (.inr (.inr (.inr (va_up f n (some y)))))))) a (.inr (0, [.int mo, .ref t, .int (nI (n + 1))]))) (hv_Bq G h sz) (hv_A h sz)) (by decide) rfl rfl (Nat.le_of_ble_eq_true rfl) ?_
  intro p e s m below meth c hr hnm C I ls hl
  have hl : lv_has ls 4 [(0, .ref a), (1, .ref y), (2, .ref t), (3, .int (nI n))] := hl
  refine lv_iload_n C.1 C.2.1 dJx4a65c_add_72be8_0 rfl (lv_at hl 3 rfl) ?_
  refine lv_aload_n C.1 C.2.1 dJx4a65c_add_72be8_1 rfl (lv_at hl 2 rfl) ?_
  refine hv_alen (v := nI N) C I ft 3 rfl rfl dJx4a65c_add_72be8_2 ?_
  refine lv_icmp_ne (tgt := 11) C.1 C.2.1 dJx4a65c_add_72be8_3 (by decide) (fun c3 => ?_) (fun c3 => ?_)
  · refine lv_aload_n C.1 C.2.1 dJx4a65c_add_72be8_11 rfl (lv_at hl 2 rfl) ?_
    refine lv_iload_n C.1 C.2.1 dJx4a65c_add_72be8_12 rfl (lv_at hl 3 rfl) ?_
    refine lv_aload_n C.1 C.2.1 dJx4a65c_add_72be8_13 rfl (lv_at hl 1 rfl) ?_
    refine hv_oast C I ft fy hci hca (vp_in_nI hn (by omega)) dJx4a65c_add_72be8_14 (fun H locs I => ?_)
    obtain ⟨h_1, eh_1⟩ : ∃ z, z = hv_up h t (.inl (G.2.1 3, N, .inr (.inr (.inr (.inr (va_up f (nI n).toNatClampNeg (some y))))))) := ⟨_, rfl⟩
    have I : hv_I G h s h_1 H locs := by rw [eh_1]; exact I
    have fa9 : h_1 a = some (.inr (0, [.int mo, .ref t, .int (nI n)])) := by rw [eh_1, hv_up_ne (hv_neOA fa ft)]; exact fa
    have ft9 : h_1 t = some (.inl (G.2.1 3, N, .inr (.inr (.inr (.inr (va_up f (nI n).toNatClampNeg (some y))))))) := by rw [eh_1]; exact hv_up_eq
    have fy9 : h_1 y = some (.inr (ci, vs)) := by rw [eh_1, hv_up_ne (hv_neOA fy ft)]; exact fy
    have fa := fa9
    have ft := ft9
    have fy := fy9
    refine lv_aload_n C.1 C.2.1 dJx4a65c_add_72be8_15 rfl (lv_at hl 0 rfl) ?_
    refine lv_iload_n C.1 C.2.1 dJx4a65c_add_72be8_16 rfl (lv_at hl 3 rfl) ?_
    refine lv_iconst (v := 1) C.1 C.2.1 dJx4a65c_add_72be8_17 (by decide) ?_
    refine lv_iadd C.1 C.2.1 dJx4a65c_add_72be8_18 ?_
    refine lv_topi (fun z_2 ez_2 => ?_)
    have ez_2 : z_2 = nI (n + 1) := by rw [ez_2]; exact nI_1 n
    subst ez_2
    refine hv_put (ci := 0) (Cn := RJx4a65c) (T := TJx4a65c) (N := 3) (ref := "java/util/ArrayList") (ty := .int) (v := .int (nI (n + 1))) C I fa wJx4a65c tyJx4a65c tyJx4a65c_ok nmJx4a65c rfl 2 (by decide) (by decide +kernel) (fun _ h9 => h9) rfl (by decide +kernel) rfl rfl (Nat.le_of_ble_eq_true rfl) dJx4a65c_add_72be8_19 (fun H locs I => ?_)
    have I : hv_I G h s (hv_up h_1 a (.inr (0, [.int mo, .ref t, .int (nI (n + 1))]))) H locs := I
    obtain ⟨h_3, eh_3⟩ : ∃ z, z = hv_up h_1 a (.inr (0, [.int mo, .ref t, .int (nI (n + 1))])) := ⟨_, rfl⟩
    have I : hv_I G h s h_3 H locs := by rw [eh_3]; exact I
    have fa9 : h_3 a = some (.inr (0, [.int mo, .ref t, .int (nI (n + 1))])) := by rw [eh_3]; exact hv_up_eq
    have ft9 : h_3 t = some (.inl (G.2.1 3, N, .inr (.inr (.inr (.inr (va_up f (nI n).toNatClampNeg (some y))))))) := by rw [eh_3, hv_up_ne (hv_neAO ft fa)]; exact ft
    have fy9 : h_3 y = some (.inr (ci, vs)) := by rw [eh_3, hv_up_ne (hv_neO fy fa hci0)]; exact fy
    have fa := fa9
    have ft := ft9
    have fy := fy9
    exact hv_vret C hr I (by rw [eh_3, eh_1, nI_clamp (by omega)]) dJx4a65c_add_72be8_22 (Nat.le_of_ble_eq_true rfl) (Nat.le_of_ble_eq_true rfl)
  · exact absurd ((nI_eq (by omega) (by omega)).mp c3) (by omega)

set_option maxHeartbeats 4000000 in
set_option maxRecDepth 100000 in
theorem c_AL_add_room (l : Launch) (G : hv_G) (h : hv) (sz : Nat) {a : Nat} {mo : Int32} {t N n : Nat} {f : Nat → Option Nat} (ft : h t = some (.inl (G.2.1 3, N, .inr (.inr (.inr (.inr f)))))) (hn : n < N) (hN : N ≤ 600) (fa : h a = some (.inr (0, [.int mo, .ref t, .int (nI n)]))) {y ci : Nat} {vs : List Value} {rc : vw_C} (fy : h y = some (.inr (ci, vs))) (hci : vwCl[ci]? = some rc) (hca : Cond.castable rc.1 "java/lang/Object" ∈ hv_nw) (hci0 : ci ≠ 0) : hv_Mi l yJx4a65c_add_9ea2d wsJx4a65c_add_9ea2d 6 240 0 0 G h sz [.ref a, .ref y] (fun r u => r = 1 ∧ u = hv_up (hv_up h t (.inl (G.2.1 3, N, .inr (.inr (.inr (.inr (va_up f n (some y)))))))) a (.inr (0, [.int (mo + 1), .ref t, .int (nI (n + 1))]))) := by
  have wJx4a65c : ∀ w ∈ wsJx4a65c0, w ∈ wsJx4a65c_add_9ea2d := by decide +kernel
  refine hv_enter (y := yJx4a65c_add_9ea2d) (avs := [.ref a, .ref y]) (maxL := 2) (Qf := fun sz => va_Qi (fun r u => r = 1 ∧ u = hv_up (hv_up h t (.inl (G.2.1 3, N, .inr (.inr (.inr (.inr (va_up f n (some y)))))))) a (.inr (0, [.int (mo + 1), .ref t, .int (nI (n + 1))]))) (hv_Bq G h sz) (hv_A h sz)) (by decide) rfl rfl (Nat.le_of_ble_eq_true rfl) ?_
  intro p e s m below meth c hr hnm C I ls hl
  have hl : lv_has ls 2 [(0, .ref a), (1, .ref y)] := hl
  refine lv_aload_n C.1 C.2.1 dJx4a65c_add_9ea2d_0 rfl (lv_at hl 0 rfl) ?_
  refine lv_dup C.1 C.2.1 dJx4a65c_add_9ea2d_1 rfl ?_
  refine hv_get (ci := 0) (Cn := RJx4a65c) (T := TJx4a65c) (N := 3) (ref := "java/util/ArrayList") (v := .int mo) C I fa wJx4a65c rfl 0 (by decide) (by decide +kernel) (u_same (C.ts (w := .sameField "java/util/ArrayList" "java/util/AbstractList" "modCount" "I") (by decide +kernel))) rfl dJx4a65c_add_9ea2d_2 ?_
  refine lv_iconst (v := 1) C.1 C.2.1 dJx4a65c_add_9ea2d_5 (by decide) ?_
  refine lv_iadd C.1 C.2.1 dJx4a65c_add_9ea2d_6 ?_
  refine hv_put (ci := 0) (Cn := RJx4a65c) (T := TJx4a65c) (N := 3) (ref := "java/util/ArrayList") (ty := .int) (v := .int (mo + 1)) C I fa wJx4a65c tyJx4a65c tyJx4a65c_ok nmJx4a65c rfl 0 (by decide) (by decide +kernel) (u_same (C.ts (w := .sameField "java/util/ArrayList" "java/util/AbstractList" "modCount" "I") (by decide +kernel))) rfl (by decide +kernel) rfl rfl (Nat.le_of_ble_eq_true rfl) dJx4a65c_add_9ea2d_7 (fun H locs I => ?_)
  have I : hv_I G h s (hv_up h a (.inr (0, [.int (mo + 1), .ref t, .int (nI n)]))) H locs := I
  obtain ⟨h_1, eh_1⟩ : ∃ z, z = hv_up h a (.inr (0, [.int (mo + 1), .ref t, .int (nI n)])) := ⟨_, rfl⟩
  have I : hv_I G h s h_1 H locs := by rw [eh_1]; exact I
  have fa9 : h_1 a = some (.inr (0, [.int (mo + 1), .ref t, .int (nI n)])) := by rw [eh_1]; exact hv_up_eq
  have ft9 : h_1 t = some (.inl (G.2.1 3, N, .inr (.inr (.inr (.inr f))))) := by rw [eh_1, hv_up_ne (hv_neAO ft fa)]; exact ft
  have fy9 : h_1 y = some (.inr (ci, vs)) := by rw [eh_1, hv_up_ne (hv_neO fy fa hci0)]; exact fy
  have fa := fa9
  have ft := ft9
  have fy := fy9
  have nea : a ≠ t := hv_neOA fa ft
  refine lv_aload_n C.1 C.2.1 dJx4a65c_add_9ea2d_10 rfl (lv_at hl 0 rfl) ?_
  refine lv_aload_n C.1 C.2.1 dJx4a65c_add_9ea2d_11 rfl (lv_at hl 1 rfl) ?_
  refine lv_aload_n C.1 C.2.1 dJx4a65c_add_9ea2d_12 rfl (lv_at hl 0 rfl) ?_
  refine hv_get (ci := 0) (Cn := RJx4a65c) (T := TJx4a65c) (N := 3) (ref := "java/util/ArrayList") (v := .ref t) C I fa wJx4a65c rfl 1 (by decide) (by decide +kernel) (fun _ h9 => h9) rfl dJx4a65c_add_9ea2d_13 ?_
  refine lv_aload_n C.1 C.2.1 dJx4a65c_add_9ea2d_16 rfl (lv_at hl 0 rfl) ?_
  refine hv_get (ci := 0) (Cn := RJx4a65c) (T := TJx4a65c) (N := 3) (ref := "java/util/ArrayList") (v := .int (nI n)) C I fa wJx4a65c rfl 2 (by decide) (by decide +kernel) (fun _ h9 => h9) rfl dJx4a65c_add_9ea2d_17 ?_
  refine hv_kv I (va_runV (As := [.ref y, .ref t, .int (nI n)]) (rest := []) C.fix (c_AL_add3_room l G h_1 _ ft hn hN fa fy hci hca hci0) (cwV 3 C.2.2.2.2.1 gJx4a65c_add_9ea2d_Jx4a65c_add_72be8 rfl rfl rfl (by decide +kernel) ⟨Nat.le_of_ble_eq_true rfl, Nat.le_of_ble_eq_true rfl⟩) (hv_preV C I fa (r := (RJx4a65c, TJx4a65c, 3)) rfl) rfl rfl hl.1 rfl (lv_room (Nat.le_of_ble_eq_true rfl)) dJx4a65c_add_9ea2d_20 ⟨Nat.le_of_ble_eq_true rfl, Nat.le_of_ble_eq_true rfl⟩) (fun u_2 H locs pu_2 I => ?_)
  refine lv_iconst (v := 1) C.1 C.2.1 dJx4a65c_add_9ea2d_23 (by decide) ?_
  exact hv_zret (v := 1) C hr I rfl (⟨rfl, by rw [pu_2, eh_1, hv_up_comm nea, hv_up_up]⟩) dJx4a65c_add_9ea2d_24 (Nat.le_of_ble_eq_true rfl) (Nat.le_of_ble_eq_true rfl)
