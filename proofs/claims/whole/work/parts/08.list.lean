/-! ===== the library's list, method by method ===== -/
theorem hv_le0 (n : Nat) : 0 + n ≤ n := by omega
theorem hv_mono {l : Launch} {y : MethodName} {ws : List Cond} {rm : Room} {Pc : Array Value → State → Prop} {Q1 Q2 : Array Value → State → Outcome → State → Prop} {mc ms : Nat} {free : Addr → Prop} (hM : Met l y ws rm Pc Q1 mc ms free) (hq : ∀ a st o t, Q1 a st o t → Q2 a st o t) : Met l y ws rm Pc Q2 mc ms free := by
  intro p e h1 h2 h3 s m args below h4 h5 h6 h7
  obtain ⟨n, o, k1, k2, k3, k4, k5⟩ := hM p e h1 h2 h3 s m args below h4 h5 h6 h7
  exact ⟨n, o, k1, k2, k3, hq _ _ _ _ k4, k5⟩
theorem hv_i1 (n : Nat) (h : 2 ≤ n) (hn : n ≤ 40000) : nI n >>> ((1 : Int32) &&& 31) = nI (n / 2) := by
  have k := pk_shrN (n := n) (by omega) ((1 : Int32) &&& 31) 1 (by decide)
  rw [Nat.pow_one] at k
  exact k
set_option maxHeartbeats 4000000 in
set_option maxRecDepth 100000 in
theorem c_Jxa1e45_init (l : Launch) (G : hv_G) (h : hv) (sz : Nat) (a : Nat) : hv_Mv l yJxa1e45_init_da8c8 wsJxa1e45_init_da8c8 1 30 0 0 G h sz [.ref a] (fun u => u = h) := by
  refine hv_enter (y := yJxa1e45_init_da8c8) (avs := [.ref a]) (maxL := 1) (Qf := fun sz => va_Qv (fun u => u = h) (hv_Bq G h sz) (hv_A h sz)) (by decide) rfl rfl (Nat.le_of_ble_eq_true rfl) ?_
  intro p e s m below meth c hr hnm C I ls hl
  have hl : lv_has ls 1 [(0, .ref a)] := hl
  refine lv_aload_n C.1 C.2.1 dJxa1e45_init_da8c8_0 rfl (lv_at hl 0 rfl) ?_
  refine W.objInit C.1 C.2.1 C.2.2.2.1 (C.ts (w := .methodLink RJxa1e45 1 objectInit) (by decide +kernel)) (C.ts (by decide +kernel)) (C.ts (by decide +kernel)) rfl (by rw [C.2.2.1]; exact hl.1) rfl dJxa1e45_init_da8c8_1 (Nat.le_of_ble_eq_true rfl) (Nat.le_of_ble_eq_true rfl) ?_
  refine W.eq (g2 := F0 m 4 ls []) rfl ?_
  exact hv_vret C hr I (rfl) dJxa1e45_init_da8c8_4 (Nat.le_of_ble_eq_true rfl) (Nat.le_of_ble_eq_true rfl)

set_option maxHeartbeats 4000000 in
set_option maxRecDepth 100000 in
theorem c_Jxc12de_init (l : Launch) (G : hv_G) (h : hv) (sz : Nat) {a : Nat} {x0 x2 : Int32} (fa : h a = some (.inr (0, [.int x0, .null, .int x2]))) : hv_Mv l yJxc12de_init_da8c8 wsJxc12de_init_da8c8 2 60 0 0 G h sz [.ref a] (fun u => u = hv_up h a (.inr (0, [.int 0, .null, .int x2]))) := by
  have wJx4a65c : ∀ w ∈ wsJx4a65c0, w ∈ wsJxc12de_init_da8c8 := by decide +kernel
  refine hv_enter (y := yJxc12de_init_da8c8) (avs := [.ref a]) (maxL := 1) (Qf := fun sz => va_Qv (fun u => u = hv_up h a (.inr (0, [.int 0, .null, .int x2]))) (hv_Bq G h sz) (hv_A h sz)) (by decide) rfl rfl (Nat.le_of_ble_eq_true rfl) ?_
  intro p e s m below meth c hr hnm C I ls hl
  have hl : lv_has ls 1 [(0, .ref a)] := hl
  refine lv_aload_n C.1 C.2.1 dJxc12de_init_da8c8_0 rfl (lv_at hl 0 rfl) ?_
  refine hv_kv I (va_runI (As := []) (rest := []) C.fix (c_Jxa1e45_init l G h _ a) (cwI 0 C.2.2.2.2.1 gJxc12de_init_da8c8_Jxa1e45_init_da8c8 rfl rfl rfl (C.ts (by decide +kernel)) (C.ts (w := .methodLink RJxc12de 1 yJxa1e45_init_da8c8) (by decide +kernel)) (C.ts (by decide +kernel)) rfl (by decide +kernel) ⟨Nat.le_of_ble_eq_true rfl, Nat.le_of_ble_eq_true rfl⟩) (hv_preS C I) rfl rfl hl.1 rfl (lv_room (Nat.le_of_ble_eq_true rfl)) dJxc12de_init_da8c8_1 ⟨Nat.le_of_ble_eq_true rfl, Nat.le_of_ble_eq_true rfl⟩) (fun u_1 H locs pu_1 I => ?_)
  have e1 := pu_1.symm; subst e1
  refine lv_aload_n C.1 C.2.1 dJxc12de_init_da8c8_4 rfl (lv_at hl 0 rfl) ?_
  refine lv_iconst (v := 0) C.1 C.2.1 dJxc12de_init_da8c8_5 (by decide) ?_
  refine hv_put (ci := 0) (Cn := RJx4a65c) (T := TJx4a65c) (N := 3) (ref := "java/util/AbstractList") (ty := .int) (v := .int 0) C I fa wJx4a65c tyJx4a65c tyJx4a65c_ok nmJx4a65c rfl 0 (by decide) (by decide +kernel) (fun _ h9 => h9) rfl (by decide +kernel) rfl rfl (Nat.le_of_ble_eq_true rfl) dJxc12de_init_da8c8_6 (fun H locs I => ?_)
  have I : hv_I G h s (hv_up h a (.inr (0, [.int 0, .null, .int x2]))) H locs := I
  obtain ⟨h_2, eh_2⟩ : ∃ z, z = hv_up h a (.inr (0, [.int 0, .null, .int x2])) := ⟨_, rfl⟩
  have I : hv_I G h s h_2 H locs := by rw [eh_2]; exact I
  have fa9 : h_2 a = some (.inr (0, [.int 0, .null, .int x2])) := by rw [eh_2]; exact hv_up_eq
  have fa := fa9
  exact hv_vret C hr I (by simp only [eh_2, hv_up_up]) dJxc12de_init_da8c8_9 (Nat.le_of_ble_eq_true rfl) (Nat.le_of_ble_eq_true rfl)

set_option maxHeartbeats 4000000 in
set_option maxRecDepth 100000 in
theorem c_AL_init (l : Launch) (G : hv_G) (h : hv) (sz : Nat) {a : Nat} {x0 x2 : Int32} (fa : h a = some (.inr (0, [.int x0, .null, .int x2]))) : hv_Mv l yJx4a65c_init_da8c8 wsJx4a65c_init_da8c8 3 90 0 0 G h sz [.ref a] (fun u => u = hv_up h a (.inr (0, [.int 0, .ref (G.2.2 1), .int x2]))) := by
  have wJx4a65c : ∀ w ∈ wsJx4a65c0, w ∈ wsJx4a65c_init_da8c8 := by decide +kernel
  refine hv_enter (y := yJx4a65c_init_da8c8) (avs := [.ref a]) (maxL := 1) (Qf := fun sz => va_Qv (fun u => u = hv_up h a (.inr (0, [.int 0, .ref (G.2.2 1), .int x2]))) (hv_Bq G h sz) (hv_A h sz)) (by decide) rfl rfl (Nat.le_of_ble_eq_true rfl) ?_
  intro p e s m below meth c hr hnm C I ls hl
  have hl : lv_has ls 1 [(0, .ref a)] := hl
  refine lv_aload_n C.1 C.2.1 dJx4a65c_init_da8c8_0 rfl (lv_at hl 0 rfl) ?_
  refine hv_kv I (va_runI (As := []) (rest := []) C.fix (c_Jxc12de_init l G h _ fa) (cwI 0 C.2.2.2.2.1 gJx4a65c_init_da8c8_Jxc12de_init_da8c8 rfl rfl rfl (C.ts (by decide +kernel)) (C.ts (w := .methodLink RJx4a65c 1 yJxc12de_init_da8c8) (by decide +kernel)) (C.ts (by decide +kernel)) rfl (by decide +kernel) ⟨Nat.le_of_ble_eq_true rfl, Nat.le_of_ble_eq_true rfl⟩) (hv_preS C I) rfl rfl hl.1 rfl (lv_room (Nat.le_of_ble_eq_true rfl)) dJx4a65c_init_da8c8_1 ⟨Nat.le_of_ble_eq_true rfl, Nat.le_of_ble_eq_true rfl⟩) (fun u_1 H locs pu_1 I => ?_)
  have fa9 : u_1 a = some (.inr (0, [.int 0, .null, .int x2])) := by rw [pu_1]; exact hv_up_eq
  have fa := fa9
  refine lv_aload_n C.1 C.2.1 dJx4a65c_init_da8c8_4 rfl (lv_at hl 0 rfl) ?_
  refine hv_gets C I (by decide +kernel) dJx4a65c_init_da8c8_5 ?_
  refine hv_put (ci := 0) (Cn := RJx4a65c) (T := TJx4a65c) (N := 3) (ref := "java/util/ArrayList") (ty := .array (.object "java/lang/Object")) (v := .ref (G.2.2 1)) C I fa wJx4a65c tyJx4a65c tyJx4a65c_ok nmJx4a65c rfl 1 (by decide) (by decide +kernel) (fun _ h9 => h9) rfl (by decide +kernel) rfl rfl (Nat.le_of_ble_eq_true rfl) dJx4a65c_init_da8c8_8 (fun H locs I => ?_)
  have I : hv_I G h s (hv_up u_1 a (.inr (0, [.int 0, .ref (G.2.2 1), .int x2]))) H locs := I
  obtain ⟨h_2, eh_2⟩ : ∃ z, z = hv_up u_1 a (.inr (0, [.int 0, .ref (G.2.2 1), .int x2])) := ⟨_, rfl⟩
  have I : hv_I G h s h_2 H locs := by rw [eh_2]; exact I
  have fa9 : h_2 a = some (.inr (0, [.int 0, .ref (G.2.2 1), .int x2])) := by rw [eh_2]; exact hv_up_eq
  have fa := fa9
  exact hv_vret C hr I (by simp only [eh_2, pu_1, hv_up_up]) dJx4a65c_init_da8c8_11 (Nat.le_of_ble_eq_true rfl) (Nat.le_of_ble_eq_true rfl)

set_option maxHeartbeats 4000000 in
set_option maxRecDepth 100000 in
theorem c_AL_size0 (l : Launch) (G : hv_G) (h : hv) (sz : Nat) {a t : Nat} {mo n : Int32} (fa : h a = some (.inr (0, [.int mo, .ref t, .int n]))) : hv_Mi l yJx4a65c_size_8abf5 wsJx4a65c_size_8abf5 0 0 0 0 G h sz [.ref a] (fun r u => u = h ∧ r = n) := by
  have wJx4a65c : ∀ w ∈ wsJx4a65c0, w ∈ wsJx4a65c_size_8abf5 := by decide +kernel
  refine hv_enter (y := yJx4a65c_size_8abf5) (avs := [.ref a]) (maxL := 1) (Qf := fun sz => va_Qi (fun r u => u = h ∧ r = n) (hv_Bq G h sz) (hv_A h sz)) (by decide) rfl rfl (Nat.le_of_ble_eq_true rfl) ?_
  intro p e s m below meth c hr hnm C I ls hl
  have hl : lv_has ls 1 [(0, .ref a)] := hl
  refine lv_aload_n C.1 C.2.1 dJx4a65c_size_8abf5_0 rfl (lv_at hl 0 rfl) ?_
  refine hv_get (ci := 0) (Cn := RJx4a65c) (T := TJx4a65c) (N := 3) (ref := "java/util/ArrayList") (v := .int n) C I fa wJx4a65c rfl 2 (by decide) (by decide +kernel) (fun _ h9 => h9) rfl dJx4a65c_size_8abf5_1 ?_
  exact hv_iret (v := n) C hr I (⟨rfl, rfl⟩) dJx4a65c_size_8abf5_4 (Nat.le_of_ble_eq_true rfl) (Nat.le_of_ble_eq_true rfl)

set_option maxHeartbeats 4000000 in
set_option maxRecDepth 100000 in
theorem c_AL_elementData (l : Launch) (G : hv_G) (h : hv) (sz : Nat) {a t : Nat} {mo n : Int32} (fa : h a = some (.inr (0, [.int mo, .ref t, .int n]))) {cap : Nat} {f : Nat → Option Nat} (ft : h t = some (.inl (G.2.1 3, cap, .inr (.inr (.inr (.inr f)))))) (p0 : Int32) (g0 : vp_in p0 cap) : hv_Mq l yJx4a65c_elementData_915e3 wsJx4a65c_elementData_915e3 0 0 0 0 G h sz [.ref a, .int p0] (fun r u => u = h ∧ r = f p0.toNatClampNeg) := by
  have wJx4a65c : ∀ w ∈ wsJx4a65c0, w ∈ wsJx4a65c_elementData_915e3 := by decide +kernel
  refine hv_enter (y := yJx4a65c_elementData_915e3) (avs := [.ref a, .int p0]) (maxL := 2) (Qf := fun sz => va_Qq (fun r u => u = h ∧ r = f p0.toNatClampNeg) (hv_Bq G h sz) (hv_A h sz)) (by decide) rfl rfl (Nat.le_of_ble_eq_true rfl) ?_
  intro p e s m below meth c hr hnm C I ls hl
  have hl : lv_has ls 2 [(0, .ref a), (1, .int p0)] := hl
  refine lv_aload_n C.1 C.2.1 dJx4a65c_elementData_915e3_0 rfl (lv_at hl 0 rfl) ?_
  refine hv_get (ci := 0) (Cn := RJx4a65c) (T := TJx4a65c) (N := 3) (ref := "java/util/ArrayList") (v := .ref t) C I fa wJx4a65c rfl 1 (by decide) (by decide +kernel) (fun _ h9 => h9) rfl dJx4a65c_elementData_915e3_1 ?_
  refine lv_iload_n C.1 C.2.1 dJx4a65c_elementData_915e3_4 rfl (lv_at hl 1 rfl) ?_
  refine hv_oald C I ft g0 dJx4a65c_elementData_915e3_5 ?_
  exact hv_qret (r := f p0.toNatClampNeg) C hr (Or.inl ⟨_, rfl⟩) I (⟨rfl, rfl⟩) dJx4a65c_elementData_915e3_6 (Nat.le_of_ble_eq_true rfl) (Nat.le_of_ble_eq_true rfl)

set_option maxHeartbeats 4000000 in
set_option maxRecDepth 100000 in
theorem c_J3_checkIndex (l : Launch) (G : hv_G) (h : hv) (sz : Nat) (p0 p1 : Int32) (g0 : ¬ p0 < 0) (g1 : p0 < p1) : hv_Mi l yJ3_checkIndex_8e157 wsJ3_checkIndex_8e157 0 0 0 0 G h sz [.int p0, .int p1, .null] (fun r u => u = h ∧ r = p0) := by
  refine hv_enter (y := yJ3_checkIndex_8e157) (avs := [.int p0, .int p1, .null]) (maxL := 3) (Qf := fun sz => va_Qi (fun r u => u = h ∧ r = p0) (hv_Bq G h sz) (hv_A h sz)) (by decide) rfl rfl (Nat.le_of_ble_eq_true rfl) ?_
  intro p e s m below meth c hr hnm C I ls hl
  have hl : lv_has ls 3 [(0, .int p0), (1, .int p1), (2, .null)] := hl
  refine lv_iload_n C.1 C.2.1 dJ3_checkIndex_8e157_0 rfl (lv_at hl 0 rfl) ?_
  refine lv_if_lt (tgt := 9) C.1 C.2.1 dJ3_checkIndex_8e157_1 (by decide) (fun c1 => ?_) (fun c1 => ?_)
  · exact absurd c1 g0
  · refine lv_iload_n C.1 C.2.1 dJ3_checkIndex_8e157_4 rfl (lv_at hl 0 rfl) ?_
    refine lv_iload_n C.1 C.2.1 dJ3_checkIndex_8e157_5 rfl (lv_at hl 1 rfl) ?_
    refine lv_icmp_lt (tgt := 16) C.1 C.2.1 dJ3_checkIndex_8e157_6 (by decide) (fun c6 => ?_) (fun c6 => ?_)
    · refine lv_iload_n C.1 C.2.1 dJ3_checkIndex_8e157_16 rfl (lv_at hl 0 rfl) ?_
      exact hv_iret (v := p0) C hr I (⟨rfl, rfl⟩) dJ3_checkIndex_8e157_17 (Nat.le_of_ble_eq_true rfl) (Nat.le_of_ble_eq_true rfl)
    · exact absurd g1 c6

set_option maxHeartbeats 4000000 in
set_option maxRecDepth 100000 in
theorem c_J15_checkIndex (l : Launch) (G : hv_G) (h : hv) (sz : Nat) (p0 p1 : Int32) (g0 : ¬ p0 < 0) (g1 : p0 < p1) : hv_Mi l yJ15_checkIndex_7cf53 wsJ15_checkIndex_7cf53 1 30 0 0 G h sz [.int p0, .int p1] (fun r u => u = h ∧ r = p0) := by
  refine hv_enter (y := yJ15_checkIndex_7cf53) (avs := [.int p0, .int p1]) (maxL := 2) (Qf := fun sz => va_Qi (fun r u => u = h ∧ r = p0) (hv_Bq G h sz) (hv_A h sz)) (by decide) rfl rfl (Nat.le_of_ble_eq_true rfl) ?_
  intro p e s m below meth c hr hnm C I ls hl
  have hl : lv_has ls 2 [(0, .int p0), (1, .int p1)] := hl
  refine lv_iload_n C.1 C.2.1 dJ15_checkIndex_7cf53_0 rfl (lv_at hl 0 rfl) ?_
  refine lv_iload_n C.1 C.2.1 dJ15_checkIndex_7cf53_1 rfl (lv_at hl 1 rfl) ?_
  refine lv_null C.1 C.2.1 dJ15_checkIndex_7cf53_2 ?_
  refine hv_ki I (va_runS (As := [.int p0, .int p1, .null]) (rest := []) C.fix (c_J3_checkIndex l G h _ p0 p1 g0 g1) (va_cwS 3 C.2.2.2.2.1 gJ15_checkIndex_7cf53_J3_checkIndex_8e157 rfl rfl rfl (by decide +kernel) ⟨Nat.le_of_ble_eq_true rfl, Nat.le_of_ble_eq_true rfl⟩) (hv_preS C I) rfl rfl hl.1 rfl (lv_room (Nat.le_of_ble_eq_true rfl)) dJ15_checkIndex_7cf53_3 ⟨Nat.le_of_ble_eq_true rfl, Nat.le_of_ble_eq_true rfl⟩) (fun ru_1 u_1 H locs pu_1 I => ?_)
  obtain ⟨e1, e2⟩ := pu_1; have e1 := e1.symm; subst e1; have e2 := e2.symm; subst e2
  exact hv_iret (v := p0) C hr I (⟨rfl, rfl⟩) dJ15_checkIndex_7cf53_6 (Nat.le_of_ble_eq_true rfl) (Nat.le_of_ble_eq_true rfl)

set_option maxHeartbeats 4000000 in
set_option maxRecDepth 100000 in
theorem c_AL_get0 (l : Launch) (G : hv_G) (h : hv) (sz : Nat) {a t : Nat} {mo n : Int32} (fa : h a = some (.inr (0, [.int mo, .ref t, .int n]))) {cap : Nat} {f : Nat → Option Nat} (ft : h t = some (.inl (G.2.1 3, cap, .inr (.inr (.inr (.inr f)))))) (p0 : Int32) (g0 : ¬ p0 < 0) (g1 : p0 < n) (g2 : vp_in p0 cap) : hv_Mq l yJx4a65c_get_915e3 wsJx4a65c_get_915e3 2 60 0 0 G h sz [.ref a, .int p0] (fun r u => u = h ∧ r = f p0.toNatClampNeg) := by
  have wJx4a65c : ∀ w ∈ wsJx4a65c0, w ∈ wsJx4a65c_get_915e3 := by decide +kernel
  refine hv_enter (y := yJx4a65c_get_915e3) (avs := [.ref a, .int p0]) (maxL := 2) (Qf := fun sz => va_Qq (fun r u => u = h ∧ r = f p0.toNatClampNeg) (hv_Bq G h sz) (hv_A h sz)) (by decide) rfl rfl (Nat.le_of_ble_eq_true rfl) ?_
  intro p e s m below meth c hr hnm C I ls hl
  have hl : lv_has ls 2 [(0, .ref a), (1, .int p0)] := hl
  refine lv_iload_n C.1 C.2.1 dJx4a65c_get_915e3_0 rfl (lv_at hl 1 rfl) ?_
  refine lv_aload_n C.1 C.2.1 dJx4a65c_get_915e3_1 rfl (lv_at hl 0 rfl) ?_
  refine hv_get (ci := 0) (Cn := RJx4a65c) (T := TJx4a65c) (N := 3) (ref := "java/util/ArrayList") (v := .int n) C I fa wJx4a65c rfl 2 (by decide) (by decide +kernel) (fun _ h9 => h9) rfl dJx4a65c_get_915e3_2 ?_
  refine hv_ki I (va_runS (As := [.int p0, .int n]) (rest := []) C.fix (c_J15_checkIndex l G h _ p0 n g0 g1) (va_cwS 2 C.2.2.2.2.1 gJx4a65c_get_915e3_J15_checkIndex_7cf53 rfl rfl rfl (by decide +kernel) ⟨Nat.le_of_ble_eq_true rfl, Nat.le_of_ble_eq_true rfl⟩) (hv_preS C I) rfl rfl hl.1 rfl (lv_room (Nat.le_of_ble_eq_true rfl)) dJx4a65c_get_915e3_5 ⟨Nat.le_of_ble_eq_true rfl, Nat.le_of_ble_eq_true rfl⟩) (fun ru_1 u_1 H locs pu_1 I => ?_)
  obtain ⟨e1, e2⟩ := pu_1; have e1 := e1.symm; subst e1; have e2 := e2.symm; subst e2
  refine lv_pop C.1 C.2.1 dJx4a65c_get_915e3_8 rfl ?_
  refine lv_aload_n C.1 C.2.1 dJx4a65c_get_915e3_9 rfl (lv_at hl 0 rfl) ?_
  refine lv_iload_n C.1 C.2.1 dJx4a65c_get_915e3_10 rfl (lv_at hl 1 rfl) ?_
  refine hv_kq I (va_runV (As := [.int p0]) (rest := []) C.fix (c_AL_elementData l G h _ fa ft p0 g2) (cwV 1 C.2.2.2.2.1 gJx4a65c_get_915e3_Jx4a65c_elementData_915e3 rfl rfl rfl (by decide +kernel) ⟨Nat.le_of_ble_eq_true rfl, Nat.le_of_ble_eq_true rfl⟩) (hv_preV C I fa (r := (RJx4a65c, TJx4a65c, 3)) rfl) rfl rfl hl.1 rfl (lv_room (Nat.le_of_ble_eq_true rfl)) dJx4a65c_get_915e3_11 ⟨Nat.le_of_ble_eq_true rfl, Nat.le_of_ble_eq_true rfl⟩) (fun ru_2 u_2 H locs pu_2 I => ?_)
  obtain ⟨e1, e2⟩ := pu_2; have e1 := e1.symm; subst e1; have e2 := e2.symm; subst e2
  exact hv_qret (r := f p0.toNatClampNeg) C hr (Or.inl ⟨_, rfl⟩) I (⟨rfl, rfl⟩) dJx4a65c_get_915e3_14 (Nat.le_of_ble_eq_true rfl) (Nat.le_of_ble_eq_true rfl)

set_option maxHeartbeats 4000000 in
set_option maxRecDepth 100000 in
theorem c_J8_newLength (l : Launch) (G : hv_G) (h : hv) (sz : Nat) (p0 p1 p2 : Int32) (g0 : ¬ p0 + (if p1 < p2 then p2 else p1) ≤ 0) (g1 : ¬ 2147483639 < p0 + (if p1 < p2 then p2 else p1)) : hv_Mi l yJ8_newLength_cabcc wsJ8_newLength_cabcc 1 20 0 0 G h sz [.int p0, .int p1, .int p2] (fun r u => u = h ∧ r = p0 + (if p1 < p2 then p2 else p1)) := by
  refine hv_enter (y := yJ8_newLength_cabcc) (avs := [.int p0, .int p1, .int p2]) (maxL := 4) (Qf := fun sz => va_Qi (fun r u => u = h ∧ r = p0 + (if p1 < p2 then p2 else p1)) (hv_Bq G h sz) (hv_A h sz)) (by decide) rfl rfl (Nat.le_of_ble_eq_true rfl) ?_
  intro p e s m below meth c hr hnm C I ls hl
  have hl : lv_has ls 4 [(0, .int p0), (1, .int p1), (2, .int p2)] := hl
  refine lv_iload_n C.1 C.2.1 dJ8_newLength_cabcc_0 rfl (lv_at hl 0 rfl) ?_
  refine lv_iload_n C.1 C.2.1 dJ8_newLength_cabcc_1 rfl (lv_at hl 1 rfl) ?_
  refine lv_iload_n C.1 C.2.1 dJ8_newLength_cabcc_2 rfl (lv_at hl 2 rfl) ?_
  refine va_mmax C.1 C.2.1 (C.2.2.1.trans hl.1.symm) C.2.2.2.1 (C.ts (w := .methodLink RJ8 194 Lib.Math.max.name) (by decide +kernel)) (C.ts (by decide +kernel)) (C.ts (by decide +kernel)) (C.ts (by decide +kernel)) (by decide) (by decide) (Nat.zero_le _) (Nat.zero_le _) dJ8_newLength_cabcc_3 ?_
  refine lv_iadd C.1 C.2.1 dJ8_newLength_cabcc_6 ?_
  refine lv_istore_n (lv' := [(3, .int (p0 + (if p1 < p2 then p2 else p1))), (0, .int p0), (1, .int p1), (2, .int p2)]) C.1 C.2.1 dJ8_newLength_cabcc_7 rfl hl (by decide) rfl (fun ls hl => ?_)
  refine lv_iconst (v := 0) C.1 C.2.1 dJ8_newLength_cabcc_8 (by decide) ?_
  refine lv_iload_n C.1 C.2.1 dJ8_newLength_cabcc_9 rfl (lv_at hl 0 rfl) ?_
  refine lv_icmp_ge (tgt := 21) C.1 C.2.1 dJ8_newLength_cabcc_10 (by decide) (fun c10 => ?_) (fun c10 => ?_)
  · exact absurd c10 g0
  · refine lv_iload_n C.1 C.2.1 dJ8_newLength_cabcc_13 rfl (lv_at hl 0 rfl) ?_
    refine lv_ldc C.1 C.2.1 C.2.2.2.1 (C.ts (w := .constant RJ8 200 (2147483639)) (by decide +kernel)) dJ8_newLength_cabcc_14 ?_
    refine lv_icmp_gt (tgt := 21) C.1 C.2.1 dJ8_newLength_cabcc_16 (by decide) (fun c16 => ?_) (fun c16 => ?_)
    · exact absurd c16 g1
    · refine lv_iload_n C.1 C.2.1 dJ8_newLength_cabcc_19 rfl (lv_at hl 0 rfl) ?_
      exact hv_iret (v := (p0 + (if p1 < p2 then p2 else p1))) C hr I (⟨rfl, rfl⟩) dJ8_newLength_cabcc_20 (Nat.le_of_ble_eq_true rfl) (Nat.le_of_ble_eq_true rfl)

set_option maxHeartbeats 4000000 in
set_option maxRecDepth 100000 in
theorem c_J7_copyOf3 (l : Launch) (G : hv_G) (h : hv) (sz : Nat) {t cap : Nat} {f : Nat → Option Nat} (ft : h t = some (.inl (G.2.1 3, cap, .inr (.inr (.inr (.inr f)))))) (hel : hv_El h f cap) (N : Nat) (hc : cap ≤ N) (hN : N ≤ 1000) : hv_Mq l yJ7_copyOf_6403c wsJ7_copyOf_6403c 1 60 1 N G h sz [.ref t, .int (nI N), .ref (G.2.2 0)] (fun r u => ∃ q : Nat, h q = none ∧ r = some q ∧ u = hv_up h q (.inl (G.2.1 3, N, .inr (.inr (.inr (.inr (va_cpy f (fun _ => none) 0 0 cap))))))) := by
  refine hv_enter (y := yJ7_copyOf_6403c) (avs := [.ref t, .int (nI N), .ref (G.2.2 0)]) (maxL := 4) (Qf := fun sz => va_Qq (fun r u => ∃ q : Nat, h q = none ∧ r = some q ∧ u = hv_up h q (.inl (G.2.1 3, N, .inr (.inr (.inr (.inr (va_cpy f (fun _ => none) 0 0 cap))))))) (hv_Bq G h sz) (hv_A h sz)) (by decide) rfl rfl (Nat.le_of_ble_eq_true rfl) ?_
  intro p e s m below meth c hr hnm C I ls hl
  have hl : lv_has ls 4 [(0, .ref t), (1, .int (nI N)), (2, .ref (G.2.2 0))] := hl
  refine lv_aload_n C.1 C.2.1 dJ7_copyOf_6403c_0 rfl (lv_at hl 2 rfl) ?_
  refine hv_ldcM C (by decide +kernel) dJ7_copyOf_6403c_1 ?_
  refine lv_acmp_ne (rx := some (G.2.2 0)) (ry := some (G.2.2 0)) (tgt := 13) C.1 C.2.1 dJ7_copyOf_6403c_3 (by decide) (fun c3 => ?_) (fun c3 => ?_)
  · exact absurd rfl c3
  · refine lv_iload_n C.1 C.2.1 dJ7_copyOf_6403c_6 rfl (lv_at hl 1 rfl) ?_
    refine hv_newO (N := N) C I (by decide +kernel) (nI_pos (by omega)) (nI_clamp (by omega)) (by omega) (Nat.le_of_ble_eq_true rfl) (hv_le0 N) dJ7_copyOf_6403c_7 (fun q_1 H nq_1 I => ?_)
    obtain ⟨h_2, eh_2⟩ : ∃ z, z = hv_up h q_1 (.inl (G.2.1 3, N, .inr (.inr (.inr (.inr (fun _ => none)))))) := ⟨_, rfl⟩
    rw [← eh_2] at I
    have ne_ft_q_1 : t ≠ q_1 := hv_neN ft nq_1
    have ft9 : h_2 t = some (.inl (G.2.1 3, cap, .inr (.inr (.inr (.inr f))))) := by rw [eh_2, hv_up_ne (hv_neN ft nq_1)]; exact ft
    have ft := ft9
    have fq_1 : h_2 q_1 = some (.inl (G.2.1 3, N, .inr (.inr (.inr (.inr (fun _ => none)))))) := by rw [eh_2]; exact hv_up_eq
    refine lv_goto (tgt := 24) C.1 C.2.1 dJ7_copyOf_6403c_10 (by decide) ?_
    refine lv_astore_n (lv' := [(3, .ref q_1), (0, .ref t), (1, .int (nI N)), (2, .ref (G.2.2 0))]) C.1 C.2.1 dJ7_copyOf_6403c_24 rfl hl (by decide) rfl (fun ls hl => ?_)
    refine lv_aload_n C.1 C.2.1 dJ7_copyOf_6403c_25 rfl (lv_at hl 1 rfl) ?_
    refine lv_iconst (v := 0) C.1 C.2.1 dJ7_copyOf_6403c_26 (by decide) ?_
    refine lv_aload_n C.1 C.2.1 dJ7_copyOf_6403c_27 rfl (lv_at hl 0 rfl) ?_
    refine lv_iconst (v := 0) C.1 C.2.1 dJ7_copyOf_6403c_28 (by decide) ?_
    refine lv_aload_n C.1 C.2.1 dJ7_copyOf_6403c_29 rfl (lv_at hl 1 rfl) ?_
    refine hv_alen (v := nI cap) C I ft 3 rfl rfl dJ7_copyOf_6403c_30 ?_
    refine lv_iload_n C.1 C.2.1 dJ7_copyOf_6403c_31 rfl (lv_at hl 2 rfl) ?_
    refine va_mmin C.1 C.2.1 (C.2.2.1.trans hl.1.symm) C.2.2.2.1 (C.ts (w := .methodLink RJ7 304 Lib.Math.min.name) (by decide +kernel)) (C.ts (by decide +kernel)) (C.ts (by decide +kernel)) (C.ts (by decide +kernel)) (by decide) (by decide) (by show _ ≤ _; simp) (by show _ ≤ _; simp) dJ7_copyOf_6403c_32 ?_
    refine lv_topi (fun z_3 ez_3 => ?_)
    have ez_3 : z_3 = nI cap := by rw [ez_3]; exact if_neg (nI_nlt hc (by omega))
    subst ez_3
    have hel2 : hv_El h_2 f (nI cap).toNatClampNeg := by
      rw [nI_clamp (by omega)]; intro i hi y hy; obtain ⟨ci, fs, r, e1, e2, e3⟩ := hel i hi y hy
      exact ⟨ci, fs, r, by rw [eh_2, hv_up_ne (hv_neN e1 nq_1)]; exact e1, e2, e3⟩
    refine hv_copy (n := nI cap) C I hl.1 (by decide +kernel) (by decide +kernel) (by decide +kernel) (by decide +kernel) ft fq_1 (nI_pos (by omega)) (by rw [nI_clamp (by omega)]; exact Nat.le_refl _) (by rw [nI_clamp (by omega)]; exact hc) hel2 (Nat.le_of_ble_eq_true rfl) (by decide) dJ7_copyOf_6403c_35 (fun H locs I => ?_)
    obtain ⟨h_4, eh_4⟩ : ∃ z, z = hv_up h_2 q_1 (.inl (G.2.1 3, N, .inr (.inr (.inr (.inr (va_cpy f (fun _ => none) 0 0 (nI cap).toNatClampNeg)))))) := ⟨_, rfl⟩
    have I : hv_I G h s h_4 H locs := by rw [eh_4]; exact I
    have ft9 : h_4 t = some (.inl (G.2.1 3, cap, .inr (.inr (.inr (.inr f))))) := by rw [eh_4, hv_up_ne ne_ft_q_1]; exact ft
    have fq_19 : h_4 q_1 = some (.inl (G.2.1 3, N, .inr (.inr (.inr (.inr (va_cpy f (fun _ => none) 0 0 (nI cap).toNatClampNeg)))))) := by rw [eh_4]; exact hv_up_eq
    have ft := ft9
    have fq_1 := fq_19
    refine lv_aload_n C.1 C.2.1 dJ7_copyOf_6403c_38 rfl (lv_at hl 0 rfl) ?_
    exact hv_qret (r := some q_1) C hr (Or.inr ⟨_, rfl⟩) I (⟨q_1, nq_1, rfl, by simp only [eh_4, eh_2, hv_up_up]; rw [nI_clamp (by omega)]⟩) dJ7_copyOf_6403c_39 (Nat.le_of_ble_eq_true rfl) (hv_le0 N)

set_option maxHeartbeats 4000000 in
set_option maxRecDepth 100000 in
theorem c_J7_copyOf2 (l : Launch) (G : hv_G) (h : hv) (sz : Nat) {t cap : Nat} {f : Nat → Option Nat} (ft : h t = some (.inl (G.2.1 3, cap, .inr (.inr (.inr (.inr f)))))) (hel : hv_El h f cap) (N : Nat) (hc : cap ≤ N) (hN : N ≤ 1000) : hv_Mq l yJ7_copyOf_1904c wsJ7_copyOf_1904c 2 90 1 N G h sz [.ref t, .int (nI N)] (fun r u => ∃ q : Nat, h q = none ∧ r = some q ∧ u = hv_up h q (.inl (G.2.1 3, N, .inr (.inr (.inr (.inr (va_cpy f (fun _ => none) 0 0 cap))))))) := by
  refine hv_enter (y := yJ7_copyOf_1904c) (avs := [.ref t, .int (nI N)]) (maxL := 2) (Qf := fun sz => va_Qq (fun r u => ∃ q : Nat, h q = none ∧ r = some q ∧ u = hv_up h q (.inl (G.2.1 3, N, .inr (.inr (.inr (.inr (va_cpy f (fun _ => none) 0 0 cap))))))) (hv_Bq G h sz) (hv_A h sz)) (by decide) rfl rfl (Nat.le_of_ble_eq_true rfl) ?_
  intro p e s m below meth c hr hnm C I ls hl
  have hl : lv_has ls 2 [(0, .ref t), (1, .int (nI N))] := hl
  refine lv_aload_n C.1 C.2.1 dJ7_copyOf_1904c_0 rfl (lv_at hl 0 rfl) ?_
  refine lv_iload_n C.1 C.2.1 dJ7_copyOf_1904c_1 rfl (lv_at hl 1 rfl) ?_
  refine lv_aload_n C.1 C.2.1 dJ7_copyOf_1904c_2 rfl (lv_at hl 0 rfl) ?_
  refine hv_getC C I hl.1 ft (by decide +kernel) (by decide +kernel) (by decide +kernel) (by decide +kernel) (Nat.le_of_ble_eq_true rfl) (Nat.le_of_ble_eq_true rfl) dJ7_copyOf_1904c_3 ?_
  refine hv_kq I (va_runS (As := [.ref t, .int (nI N), .ref (G.2.2 0)]) (rest := []) C.fix (c_J7_copyOf3 l G h _ ft hel N hc hN) (va_cwS 3 C.2.2.2.2.1 gJ7_copyOf_1904c_J7_copyOf_6403c rfl rfl rfl (by decide +kernel) ⟨Nat.le_of_ble_eq_true rfl, Nat.le_of_ble_eq_true rfl⟩) (hv_preS C I) rfl rfl hl.1 rfl (lv_room (Nat.le_of_ble_eq_true rfl)) dJ7_copyOf_1904c_6 ⟨Nat.le_of_ble_eq_true rfl, Nat.le_of_ble_eq_true rfl⟩) (fun ru_1 u_1 H locs pu_1 I => ?_)
  obtain ⟨q_2, nq_2, e1, eu_1⟩ := pu_1; have e1 := e1.symm; subst e1
  have ft9 : u_1 t = some (.inl (G.2.1 3, cap, .inr (.inr (.inr (.inr f))))) := by rw [eu_1, hv_up_ne (hv_neN ft nq_2)]; exact ft
  have ft := ft9
  have fq_2 : u_1 q_2 = some (.inl (G.2.1 3, N, .inr (.inr (.inr (.inr (va_cpy f (fun _ => none) 0 0 cap)))))) := by rw [eu_1]; exact hv_up_eq
  exact hv_qret (r := some q_2) C hr (Or.inr ⟨_, rfl⟩) I (⟨q_2, nq_2, rfl, eu_1⟩) dJ7_copyOf_1904c_9 (Nat.le_of_ble_eq_true rfl) (hv_le0 N)
