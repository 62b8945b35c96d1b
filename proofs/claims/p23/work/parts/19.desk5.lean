/-! ===== a payment while it is made ===== -/
theorem isD_mono {G : hv_G} {h u : hv} {ad : Nat → Nat → Nat} {n d dl : Nat} {dy : Int32} {rf : Int64} {ar : Nat → Nat → Int32} {fm : Nat → Int32} {po : Nat → List (Int32 × Int32 × Int32)} (hD : isD G h ad n d dl dy rf ar fm po) (hk : ∀ b e, h b = some e → u b = some e) : isD G u ad n d dl dy rf ar fm po :=
  ⟨fun k i hl => hk _ _ (hD.1 k i hl), hD.2⟩
def isY (G : hv_G) (h0 h : hv) (py pl t : Nat) (f : Nat → Nat) (L : List (Int32 × Int32 × Int32)) (am he : Int32) : Prop :=
  h py = some (.inr (3, [.int am, .ref pl, .int he])) ∧ h pl = some (lObj G t L.length) ∧ (¬ L.length = 0 → h t = some (lArr G f L.length)) ∧ (∀ k, k < L.length → h (f k) = some (poE (L.getD k (0, 0, 0)))) ∧
  (h0 py = none ∧ h0 pl = none ∧ (¬ L.length = 0 → h0 t = none) ∧ ∀ k, k < L.length → h0 (f k) = none) ∧ (∀ i k, i < L.length → k < L.length → f i = f k → i = k) ∧ ∀ b e, h0 b = some e → h b = some e
section ISY
variable {G : hv_G} {h0 h u : hv} {py pl t : Nat} {f : Nat → Nat} {L : List (Int32 × Int32 × Int32)} {am he : Int32}
theorem isY_k (hY : isY G h0 h py pl t f L am he) : ∀ b e, h0 b = some e → h b = some e := hY.2.2.2.2.2.2
theorem isY_n (hY : isY G h0 h py pl t f L am he) {q : Nat} (nq : h q = none) : h0 q = none := by
  cases hx : h0 q with
  | none => rfl
  | some e => rw [isY_k hY q e hx] at nq; cases nq
theorem isY_up (hY : isY G h0 h py pl t f L am he) {q : Nat} {c : va_E} (nq : h q = none) (e : u = hv_up h q c) : isY G h0 u py pl t f L am he := by
  have k : ∀ b c, h b = some c → u b = some c := fun b c hb => by rw [e, hv_up_ne (hv_neN hb nq)]; exact hb
  exact ⟨k _ _ hY.1, k _ _ hY.2.1, fun z => k _ _ (hY.2.2.1 z), fun i z => k _ _ (hY.2.2.2.1 i z), hY.2.2.2.2.1, hY.2.2.2.2.2.1, fun b c z => k _ _ (isY_k hY b c z)⟩
end ISY
theorem hv_mv {l : Launch} {y : MethodName} {ws : List Cond} {f lo mc ms : Nat} {G : hv_G} {h : hv} {sz : Nat} {avs : List Value} {P P' : hv → Prop} (h1 : hv_Mv l y ws f lo mc ms G h sz avs P) (hq : ∀ u, P u → P' u) : hv_Mv l y ws f lo mc ms G h sz avs P' :=
  hv_mono h1 (fun _ _ _ _ z => ⟨by obtain ⟨w, e, p, b⟩ := z.1; exact ⟨w, e, hq _ p, b⟩, z.2⟩)
theorem getD_app (L : List (Int32 × Int32 × Int32)) (x : Int32 × Int32 × Int32) (k : Nat) : (L ++ [x]).getD k (0, 0, 0) = if k = L.length then x else L.getD k (0, 0, 0) := by
  rw [List.getD_eq_getElem?_getD, List.getD_eq_getElem?_getD]
  by_cases c : k < L.length
  · rw [List.getElem?_append_left c, if_neg (by omega)]
  · rw [List.getElem?_append_right (by omega)]
    by_cases c2 : k = L.length
    · subst c2
      simp
    · rw [if_neg c2, List.getElem?_eq_none (by simp; omega), List.getElem?_eq_none (by omega)]
set_option maxHeartbeats 4000000 in
set_option maxRecDepth 100000 in
theorem c_X2_init (l : Launch) (G : hv_G) (h : hv) (sz : Nat) {a : Nat} {x0 x2 : Int32} (fa : h a = some (.inr (3, [.int x0, .null, .int x2]))) (p0 : Int32) : hv_Mv l yX2_init wsX2_init 4 120 1 3 G h sz [.ref a, .int p0] (fun u => ∃ q : Nat, h q = none ∧ u = hv_up (hv_up h q (.inr (0, [.int 0, .ref (G.2.2 1), .int 0]))) a (.inr (3, [.int p0, .ref q, .int 0]))) := by
  have wJx4a65c : ∀ w ∈ wsJx4a65c0, w ∈ wsX2_init := by decide +kernel
  have wX2 : ∀ w ∈ wsX20, w ∈ wsX2_init := by decide +kernel
  refine hv_enter (y := yX2_init) (avs := [.ref a, .int p0]) (maxL := 2) (Qf := fun sz => va_Qv (fun u => ∃ q : Nat, h q = none ∧ u = hv_up (hv_up h q (.inr (0, [.int 0, .ref (G.2.2 1), .int 0]))) a (.inr (3, [.int p0, .ref q, .int 0]))) (hv_Bq G h sz) (hv_A h sz)) (by decide) rfl rfl (Nat.le_of_ble_eq_true rfl) ?_
  intro p e s m below meth c hr hnm C I ls hl
  have hl : lv_has ls 2 [(0, .ref a), (1, .int p0)] := hl
  refine lv_aload_n C.1 C.2.1 dX2_init_0 rfl (lv_at hl 0 rfl) ?_
  refine W.objInit C.1 C.2.1 C.2.2.2.1 (C.ts (w := .methodLink RX2 1 objectInit) (by decide +kernel)) (C.ts (by decide +kernel)) (C.ts (by decide +kernel)) rfl (by rw [C.2.2.1]; exact hl.1) rfl dX2_init_1 (Nat.le_of_ble_eq_true rfl) (Nat.le_of_ble_eq_true rfl) ?_
  refine W.eq (g2 := F0 m 4 ls []) rfl ?_
  refine lv_aload_n C.1 C.2.1 dX2_init_4 rfl (lv_at hl 0 rfl) ?_
  refine hv_new (ci := 0) (fs := [.int 0, .null, .int 0]) (Cn := RJx4a65c) (T := TJx4a65c) (N := 3) C I wJx4a65c tyJx4a65c tyJx4a65c_ok (by decide +kernel) (by decide +kernel) (by decide +kernel) rfl (fun j hj => by rcases (show j = 0 ∨ j = 1 ∨ j = 2 by omega) with rfl | rfl | rfl <;> rfl) (Nat.le_of_ble_eq_true rfl) (Nat.le_of_ble_eq_true rfl) dX2_init_5 (fun q_1 H nq_1 I => ?_)
  obtain ⟨h_2, eh_2⟩ : ∃ z, z = hv_up h q_1 (.inr (0, [.int 0, .null, .int 0])) := ⟨_, rfl⟩
  rw [← eh_2] at I
  have fa9 : h_2 a = some (.inr (3, [.int x0, .null, .int x2])) := by rw [eh_2, hv_up_ne (hv_neN fa nq_1)]; exact fa
  have fa := fa9
  have fq_1 : h_2 q_1 = some (.inr (0, [.int 0, .null, .int 0])) := by rw [eh_2]; exact hv_up_eq
  refine lv_dup C.1 C.2.1 dX2_init_8 rfl ?_
  refine hv_kv I (va_runI (As := []) (rest := [.ref q_1, .ref a]) C.fix (c_AL_init l G h_2 _ fq_1) (cwI 0 C.2.2.2.2.1 gX2_init_Jx4a65c_init_da8c8 rfl rfl rfl (C.ts (by decide +kernel)) (C.ts (w := .methodLink RX2 9 yJx4a65c_init_da8c8) (by decide +kernel)) (C.ts (by decide +kernel)) rfl (by decide +kernel) ⟨Nat.le_of_ble_eq_true rfl, Nat.le_of_ble_eq_true rfl⟩) (hv_preS C I) rfl rfl hl.1 rfl (lv_room (Nat.le_of_ble_eq_true rfl)) dX2_init_9 ⟨Nat.le_of_ble_eq_true rfl, Nat.le_of_ble_eq_true rfl⟩) (fun u_3 H locs pu_3 I => ?_)
  have fa9 : u_3 a = some (.inr (3, [.int x0, .null, .int x2])) := by rw [pu_3, hv_up_ne (hv_neO fa fq_1 (by decide))]; exact fa
  have fq_19 : u_3 q_1 = some (.inr (0, [.int 0, .ref (G.2.2 1), .int 0])) := by rw [pu_3]; exact hv_up_eq
  have fa := fa9
  have fq_1 := fq_19
  refine hv_putF (ci := 3) (Cn := RX2) (T := TX2) (N := 3) (ref := "DividendDesk$Payment") (ty := .object "java/util/ArrayList") (v := .ref q_1) C I fa wX2 tyX2 tyX2_ok nmX2 rfl 1 (by decide) (by decide +kernel) (fun _ h9 => h9) rfl hnm rfl (by decide +kernel) rfl rfl (Nat.le_of_ble_eq_true rfl) dX2_init_12 (fun H locs I => ?_)
  have I : hv_I G h s (hv_up u_3 a (.inr (3, [.int x0, .ref q_1, .int x2]))) H locs := I
  obtain ⟨h_4, eh_4⟩ : ∃ z, z = hv_up u_3 a (.inr (3, [.int x0, .ref q_1, .int x2])) := ⟨_, rfl⟩
  have I : hv_I G h s h_4 H locs := by rw [eh_4]; exact I
  have fa9 : h_4 a = some (.inr (3, [.int x0, .ref q_1, .int x2])) := by rw [eh_4]; exact hv_up_eq
  have fq_19 : h_4 q_1 = some (.inr (0, [.int 0, .ref (G.2.2 1), .int 0])) := by rw [eh_4, hv_up_ne (hv_neO fq_1 fa (by decide))]; exact fq_1
  have fa := fa9
  have fq_1 := fq_19
  refine lv_aload_n C.1 C.2.1 dX2_init_15 rfl (lv_at hl 0 rfl) ?_
  refine lv_iconst (v := 0) C.1 C.2.1 dX2_init_16 (by decide) ?_
  refine hv_put (ci := 3) (Cn := RX2) (T := TX2) (N := 3) (ref := "DividendDesk$Payment") (ty := .int) (v := .int 0) C I fa wX2 tyX2 tyX2_ok nmX2 rfl 2 (by decide) (by decide +kernel) (fun _ h9 => h9) rfl (by decide +kernel) rfl rfl (Nat.le_of_ble_eq_true rfl) dX2_init_17 (fun H locs I => ?_)
  have I : hv_I G h s (hv_up h_4 a (.inr (3, [.int x0, .ref q_1, .int 0]))) H locs := I
  obtain ⟨h_5, eh_5⟩ : ∃ z, z = hv_up h_4 a (.inr (3, [.int x0, .ref q_1, .int 0])) := ⟨_, rfl⟩
  have I : hv_I G h s h_5 H locs := by rw [eh_5]; exact I
  have fa9 : h_5 a = some (.inr (3, [.int x0, .ref q_1, .int 0])) := by rw [eh_5]; exact hv_up_eq
  have fq_19 : h_5 q_1 = some (.inr (0, [.int 0, .ref (G.2.2 1), .int 0])) := by rw [eh_5, hv_up_ne (hv_neO fq_1 fa (by decide))]; exact fq_1
  have fa := fa9
  have fq_1 := fq_19
  refine lv_aload_n C.1 C.2.1 dX2_init_20 rfl (lv_at hl 0 rfl) ?_
  refine lv_iload_n C.1 C.2.1 dX2_init_21 rfl (lv_at hl 1 rfl) ?_
  refine hv_putF (ci := 3) (Cn := RX2) (T := TX2) (N := 3) (ref := "DividendDesk$Payment") (ty := .int) (v := .int p0) C I fa wX2 tyX2 tyX2_ok nmX2 rfl 0 (by decide) (by decide +kernel) (fun _ h9 => h9) rfl hnm rfl (by decide +kernel) rfl rfl (Nat.le_of_ble_eq_true rfl) dX2_init_22 (fun H locs I => ?_)
  have I : hv_I G h s (hv_up h_5 a (.inr (3, [.int p0, .ref q_1, .int 0]))) H locs := I
  obtain ⟨h_6, eh_6⟩ : ∃ z, z = hv_up h_5 a (.inr (3, [.int p0, .ref q_1, .int 0])) := ⟨_, rfl⟩
  have I : hv_I G h s h_6 H locs := by rw [eh_6]; exact I
  have fa9 : h_6 a = some (.inr (3, [.int p0, .ref q_1, .int 0])) := by rw [eh_6]; exact hv_up_eq
  have fq_19 : h_6 q_1 = some (.inr (0, [.int 0, .ref (G.2.2 1), .int 0])) := by rw [eh_6, hv_up_ne (hv_neO fq_1 fa (by decide))]; exact fq_1
  have fa := fa9
  have fq_1 := fq_19
  exact hv_vret C hr I (⟨q_1, nq_1, by simp only [eh_6, eh_5, eh_4, pu_3, eh_2, hv_up_up]⟩) dX2_init_25 (Nat.le_of_ble_eq_true rfl) (Nat.le_of_ble_eq_true rfl)

set_option maxHeartbeats 4000000 in
set_option maxRecDepth 100000 in
theorem c_X2_add (l : Launch) (G : hv_G) (h : hv) (sz : Nat) {a pl t n z : Nat} {am he : Int32} (fa : h a = some (.inr (3, [.int am, .ref pl, .int he]))) {f : Nat → Nat} (fl : h pl = some (lObj G t n)) (ft : ¬ n = 0 → h t = some (lArr G f n)) (hn : n < 49) {vs : List Value} (fy : h z = some (.inr (4, vs))) (hel : ∀ k, k < n → ∃ vs2, h (f k) = some (.inr (4, vs2))) : hv_Mv l yX2_add wsX2_add 7 270 (gC n) (gS n) G h sz [.ref a, .ref z] (fun u => ∃ t2 : Nat, ((t2 = t ∧ n ≠ 0) ∨ h t2 = none) ∧ u = hv_up (hv_up h t2 (lArr G (va_up f n z) (n + 1))) pl (lObj G t2 (n + 1))) := by
  have wX2 : ∀ w ∈ wsX20, w ∈ wsX2_add := by decide +kernel
  refine hv_enter (y := yX2_add) (avs := [.ref a, .ref z]) (maxL := 2) (Qf := fun sz => va_Qv (fun u => ∃ t2 : Nat, ((t2 = t ∧ n ≠ 0) ∨ h t2 = none) ∧ u = hv_up (hv_up h t2 (lArr G (va_up f n z) (n + 1))) pl (lObj G t2 (n + 1))) (hv_Bq G h sz) (hv_A h sz)) (by decide) rfl rfl (Nat.le_of_ble_eq_true rfl) ?_
  intro p e s m below meth c hr hnm C I ls hl
  have hl : lv_has ls 2 [(0, .ref a), (1, .ref z)] := hl
  refine lv_aload_n C.1 C.2.1 dX2_add_0 rfl (lv_at hl 0 rfl) ?_
  refine hv_get (ci := 3) (Cn := RX2) (T := TX2) (N := 3) (ref := "DividendDesk$Payment") (v := .ref pl) C I fa wX2 rfl 1 (by decide) (by decide +kernel) (fun _ h9 => h9) rfl dX2_add_1 ?_
  refine lv_aload_n C.1 C.2.1 dX2_add_4 rfl (lv_at hl 1 rfl) ?_
  refine hv_ki I (va_runV (As := [.ref z]) (rest := []) C.fix (c_L_add l G h _ fl ft hn fy rfl (by decide +kernel) (by decide) hel) (cwV 1 C.2.2.2.2.1 gX2_add_Jx4a65c_add_9ea2d rfl rfl rfl (by decide +kernel) ⟨Nat.le_of_ble_eq_true rfl, Nat.le_of_ble_eq_true rfl⟩) (hv_preV C I fl (r := (RJx4a65c, TJx4a65c, 3)) rfl) rfl rfl hl.1 rfl (lv_room (Nat.le_of_ble_eq_true rfl)) dX2_add_5 ⟨by show _ ≤ gC n; omega, by show _ ≤ gS n; omega⟩) (fun ru_1 u_1 H locs pu_1 I => ?_)
  obtain ⟨e1, ea⟩ := pu_1; have e1 := e1.symm; subst e1
  refine lv_pop C.1 C.2.1 dX2_add_8 rfl ?_
  exact hv_vret C hr I (ea) dX2_add_9 (by omega) (by omega)

/-- a portion more -/
theorem c_Y_add (l : Launch) (G : hv_G) (h : hv) (sz : Nat) {h0 w : hv} {py pl t q : Nat} {f : Nat → Nat} {L : List (Int32 × Int32 × Int32)} {am he : Int32} {x : Int32 × Int32 × Int32} (hY : isY G h0 w py pl t f L am he) (nq : w q = none) (eu : h = hv_up w q (poE x)) (hn : L.length < 49) :
    hv_Mv l yX2_add wsX2_add 7 270 (gC L.length) (gS L.length) G h sz [.ref py, .ref q] (fun u => ∃ (t2 : Nat) (f2 : Nat → Nat), isY G h0 u py pl t2 f2 (L ++ [x]) am he) := by
  have hY2 : isY G h0 h py pl t f L am he := isY_up hY nq eu
  have fz : h q = some (poE x) := by rw [eu]; exact hv_up_eq
  have hfq : ∀ k, k < L.length → ¬ f k = q := fun k hk z => hv_neN (hY.2.2.2.1 k hk) nq z
  refine hv_mv (c_X2_add l G h sz hY2.1 hY2.2.1 hY2.2.2.1 hn fz (fun k hk => ⟨_, hY2.2.2.2.1 k hk⟩)) (fun u hu => ?_)
  obtain ⟨t2, ht, e⟩ := hu
  have tn : ∀ b c, h b = some (.inr c) → ¬ b = t2 := fun b c hb z => ht.elim (fun y => by
    have z1 := hY2.2.2.1 y.2
    rw [← y.1, ← z, hb] at z1
    cases z1) (fun y => by rw [← z, hb] at y; cases y)
  have k : ∀ b c, h b = some (.inr c) → ¬ b = pl → u b = some (.inr c) := fun b c hb hne => by
    rw [e, hv_up_ne hne, hv_up_ne (tn b c hb)]
    exact hb
  have tpl : ¬ t2 = pl := fun z => tn pl _ hY2.2.1 z.symm
  have el : (L ++ [x]).length = L.length + 1 := by simp
  refine ⟨t2, va_up f L.length q, ?_⟩
  unfold isY
  rw [el]
  refine ⟨k _ _ hY2.1 (hv_neO hY2.1 hY2.2.1 (by decide)), by rw [e]; exact hv_up_eq, fun _ => by rw [e, hv_up_ne tpl]; exact hv_up_eq, fun i hi => ?_, ⟨hY2.2.2.2.2.1.1, hY2.2.2.2.2.1.2.1, fun _ => ?_, fun i hi => ?_⟩, fun i i2 hi hi2 ee => ?_, fun b c hb => ?_⟩
  · rw [getD_app]
    by_cases c : i = L.length
    · subst c
      rw [va_up_self, if_pos rfl]
      exact k _ _ fz (hv_neO fz hY2.2.1 (by decide))
    · rw [va_up_ne _ _ c, if_neg c]
      have z := hY2.2.2.2.1 i (by omega)
      exact k _ _ z (hv_neO z hY2.2.1 (by decide))
  · rcases ht with ⟨y, y0⟩ | y
    · rw [y]
      exact hY2.2.2.2.2.1.2.2.1 y0
    · exact isY_n hY2 y
  · by_cases c : i = L.length
    · subst c
      rw [va_up_self]
      exact isY_n hY nq
    · rw [va_up_ne _ _ c]
      exact hY2.2.2.2.2.1.2.2.2 i (by omega)
  · by_cases c : i = L.length <;> by_cases c2 : i2 = L.length
    · omega
    · subst c
      rw [va_up_self, va_up_ne _ _ c2] at ee
      exact absurd ee.symm (hfq i2 (by omega))
    · subst c2
      rw [va_up_self, va_up_ne _ _ c] at ee
      exact absurd ee (hfq i (by omega))
    · rw [va_up_ne _ _ c, va_up_ne _ _ c2] at ee
      exact hY2.2.2.2.2.2.1 i i2 (by omega) (by omega) ee
  · have z := isY_k hY2 b c hb
    rw [e, hv_up_ne (fun y => by rw [y, hY2.2.2.2.2.1.2.1] at hb; cases hb), hv_up_ne (fun y => ?_)]
    · exact z
    · rcases ht with ⟨y1, y0⟩ | y1
      · rw [y, y1, hY2.2.2.2.2.1.2.2.1 y0] at hb
        cases hb
      · rw [y, y1] at z
        cases z
def yC (k : Nat) : Nat := k + (if k = 0 then 0 else if k ≤ 10 then 1 else if k ≤ 15 then 2 else 3)
def yS (k : Nat) : Nat := 3 * k + (if k = 0 then 0 else if k ≤ 10 then 10 else if k ≤ 15 then 25 else 47)
theorem yC_st : ∀ k, k < 20 → (yC k + 1 + gC k = yC (k + 1) ∧ yS k + 3 + gS k = yS (k + 1)) ∧ yC (k + 1) ≤ 23 ∧ yS (k + 1) ≤ 107 := by decide
theorem yC_le : ∀ k, k < 21 → yC k ≤ 23 ∧ yS k ≤ 107 := by decide
theorem pts20_i (f : Nat → Int32) {j : Nat} (hj : j < 20) : pts20 f (nI j) = f j := by
  unfold pts20
  rw [if_neg (show ¬ nI j < 0 from nI_nlt (Nat.zero_le _) (by omega)), if_neg (show ¬ (20 : Int32) ≤ nI j from fun z => absurd ((nI_leI (a := 20) (b := j) (by decide) (by omega)).mp z) (by omega)), nI_clamp (by omega)]
abbrev foB (j : Nat) : Int32 := (1 : Int32) <<< (nI j &&& 31)
def lfD (am : Int32) (F : Nat → Int32) (al : Int32) : Nat → Int32
  | 0 => am
  | k + 1 => lfD am F al k - prp am (F k) al
def adR (am : Int32) (F : Nat → Int32) (al : Int32) (n : Nat) : Nat → Int32
  | 0 => lfD am F al n
  | k + 1 => if F k ≤ 0 then adR am F al n k else 0
def adL (am : Int32) (F : Nat → Int32) (al : Int32) (n : Nat) (ge ld : Nat → Int32) (j : Nat) : Nat → List (Int32 × Int32 × Int32)
  | 0 => []
  | k + 1 => if F k ≤ 0 then adL am F al n ge ld j k else adL am F al n ge ld j k ++ [(prp am (F k) al + adR am F al n k, rD ge (ld k), foB j ||| foB k)]
theorem adL_len (am : Int32) (F : Nat → Int32) (al : Int32) (n : Nat) (ge ld : Nat → Int32) (j k : Nat) : (adL am F al n ge ld j k).length ≤ k := by
  induction k with
  | zero => exact Nat.le_refl _
  | succ k ih =>
    unfold adL
    split
    · omega
    · rw [List.length_append]
      simp
      exact ih
def addP (am : Int32) (F : Nat → Int32) (n : Nat) (ge ld : Nat → Int32) (j : Nat) : List (Int32 × Int32 × Int32) := if l_sum F 20 = 0 then [(am, 30, 0)] else adL am F (l_sum F 20) n ge ld j n
def mkP (dy : Int32) (n : Nat) (ar : Nat → Nat → Int32) (j : Nat) (am : Int32) : List (Int32 × Int32 × Int32) := if ar 4 j = 2 then addP am (prow (ar 9) j) n (ar 1) (ar 5) j else [(am, ownF (rD (ar 1) (ar 5 j)) (rD (ar 2) (ar 5 j)) (hlg (ar 4 j) (ar 6 j) (ar 8 j) dy), foB j)]
theorem mkP_len (dy : Int32) {n : Nat} (ar : Nat → Nat → Int32) (j : Nat) (am : Int32) (hn : n ≤ 20) : (mkP dy n ar j am).length ≤ 20 := by
  unfold mkP addP
  split
  · split
    · simp
    · exact Nat.le_trans (adL_len _ _ _ _ _ _ _ _) hn
  · simp

set_option maxHeartbeats 8000000 in
set_option maxRecDepth 100000 in
theorem c_X4_addPortions (l : Launch) (G : hv_G) (h : hv) (sz : Nat) {h0 : hv} {ad : Nat → Nat → Nat} {n d dl : Nat} {dy : Int32} {rf : Int64} {ar : Nat → Nat → Int32} {fm : Nat → Int32} {po : Nat → List (Int32 × Int32 × Int32)} (hD0 : isD G h0 ad n d dl dy rf ar fm po) {py pl t : Nat} {f : Nat → Nat} {am he : Int32} (hY : isY G h0 h py pl t f [] am he) (j : Nat) (hj : j < n) (hn : n ≤ 20) : hv_Mv l yX4_addPortions wsX4_addPortions 9 300 23 107 G h sz [.ref (ad 0 0), .ref py, .int (nI j), .ref (ad 4 j)] (fun u => ∃ (t2 : Nat) (f2 : Nat → Nat), isY G h0 u py pl t2 f2 (addP am (prow (ar 9) j) n (ar 1) (ar 5) j) am he) := by
  have wX2 : ∀ w ∈ wsX20, w ∈ wsX4_addPortions := by decide +kernel
  have wX3 : ∀ w ∈ wsX30, w ∈ wsX4_addPortions := by decide +kernel
  have wX4 : ∀ w ∈ wsX40, w ∈ wsX4_addPortions := by decide +kernel
  have hD : isD G h ad n d dl dy rf ar fm po := isD_mono hD0 (isY_k hY)
  refine hv_enter (y := yX4_addPortions) (avs := [.ref (ad 0 0), .ref py, .int (nI j), .ref (ad 4 j)]) (maxL := 10) (Qf := fun sz => va_Qv (fun u => ∃ (t2 : Nat) (f2 : Nat → Nat), isY G h0 u py pl t2 f2 (addP am (prow (ar 9) j) n (ar 1) (ar 5) j) am he) (hv_Bq G h sz) (hv_A h sz)) (by decide) rfl rfl (Nat.le_of_ble_eq_true rfl) ?_
  intro p e s m below meth c hr hnm C I ls hl
  have hl : lv_has ls 10 [(0, .ref (ad 0 0)), (1, .ref py), (2, .int (nI j)), (3, .ref (ad 4 j))] := hl
  refine lv_aload_n C.1 C.2.1 dX4_addPortions_0 rfl (lv_at hl 3 rfl) ?_
  refine hv_ki I (va_runVN (As := []) (rest := []) C.fix (c_X1_partsInAll l G h _ (isD_4 hD hj) (isD_5 hD hj)) ⟨va_cnB 0 C.2.2.2.2.1 gX4_addPortions_X1_partsInAll_n228 rfl rfl rfl (C.nw (w := .methodLinkNest RX4 228 yX1_partsInAll "DividendDesk") (by decide +kernel)) (C.ts (by decide +kernel)) (by decide +kernel) ⟨Nat.le_of_ble_eq_true rfl, Nat.le_of_ble_eq_true rfl⟩, C.ts (by decide +kernel), C.ts (by decide +kernel)⟩ (hv_preV C I (isD_4 hD hj) (r := (RX1, TX1, 6)) rfl) rfl rfl hl.1 rfl (lv_room (Nat.le_of_ble_eq_true rfl)) dX4_addPortions_1 ⟨Nat.le_of_ble_eq_true rfl, Nat.le_of_ble_eq_true rfl⟩) (fun ru_1 u_1 H locs pu_1 I => ?_)
  obtain ⟨e1, e2⟩ := pu_1; have e1 := e1.symm; subst e1; have e2 := e2.symm; subst e2
  refine lv_istore (lv' := [(4, .int (l_sum (prow (ar 9) j) 20)), (0, .ref (ad 0 0)), (1, .ref py), (2, .int (nI j)), (3, .ref (ad 4 j))]) C.1 C.2.1 dX4_addPortions_4 hl (by decide) rfl (fun ls hl => ?_)
  refine lv_iload C.1 C.2.1 dX4_addPortions_6 (lv_at hl 0 rfl) ?_
  refine lv_if_ne (tgt := 30) C.1 C.2.1 dX4_addPortions_8 (by decide) (fun c8 => ?_) (fun c8 => ?_)
  · refine lv_aload_n C.1 C.2.1 dX4_addPortions_30 rfl (lv_at hl 2 rfl) ?_
    refine hv_getN (ci := 3) (Cn := RX2) (T := TX2) (N := 3) (ref := "DividendDesk$Payment") (host := "DividendDesk") (v := .int am) C I hY.1 wX2 rfl 0 (by decide) (by decide +kernel) (fun _ h9 => h9) rfl dX4_addPortions_31 ?_
    refine lv_istore (lv' := [(5, .int am), (4, .int (l_sum (prow (ar 9) j) 20)), (0, .ref (ad 0 0)), (1, .ref py), (2, .int (nI j)), (3, .ref (ad 4 j))]) C.1 C.2.1 dX4_addPortions_34 hl (by decide) rfl (fun ls hl => ?_)
    refine lv_iconst (v := 0) C.1 C.2.1 dX4_addPortions_36 (by decide) ?_
    refine lv_istore (lv' := [(6, .int 0), (5, .int am), (4, .int (l_sum (prow (ar 9) j) 20)), (0, .ref (ad 0 0)), (1, .ref py), (2, .int (nI j)), (3, .ref (ad 4 j))]) C.1 C.2.1 dX4_addPortions_37 hl (by decide) rfl (fun ls hl => ?_)
    have loop : ∀ (k9 i : Nat) , i ≤ n → n + 1 ≤ i + k9 → ∀ (H : Heap) (locs : List Loc), hv_I G h s h H locs → ∀ ls : Array Slot, lv_has ls 10 [(6, .int (nI i)), (5, .int (lfD am (prow (ar 9) j) (l_sum (prow (ar 9) j) 20) i)), (4, .int (l_sum (prow (ar 9) j) 20)), (0, .ref (ad 0 0)), (1, .ref py), (2, .int (nI j)), (3, .ref (ad 4 j))] → W p l e (hv_rm 9 23 107 300) s m (([.ref (ad 0 0), .ref py, .int (nI j), .ref (ad 4 j)] : List Value).toArray) below meth c H locs (0 + 0) (0 + 0) (MQ below (va_Qv (fun u => ∃ (t2 : Nat) (f2 : Nat → Nat), isY G h0 u py pl t2 f2 (addP am (prow (ar 9) j) n (ar 1) (ar 5) j) am he) (hv_Bq G h s.heap.size) (hv_A h s.heap.size)) (([.ref (ad 0 0), .ref py, .int (nI j), .ref (ad 4 j)] : List Value).toArray) s 23 107 (hv_A h s.heap.size)) (F0 m 39 ls []) := by
      intro k9
      induction k9 with
      | zero => intro i hi hin; exact absurd hin (by omega)
      | succ k9 ih =>
        intro i hi hin H locs I ls hl
        refine lv_iload C.1 C.2.1 dX4_addPortions_39 (lv_at hl 0 rfl) ?_
        refine lv_aload_n C.1 C.2.1 dX4_addPortions_41 rfl (lv_at hl 3 rfl) ?_
        refine hv_get (ci := 5) (Cn := RX4) (T := TX4) (N := 6) (ref := "DividendDesk") (v := .ref (ad 2 0)) C I (isD_0 hD) wX4 rfl 2 (by decide) (by decide +kernel) (fun _ h9 => h9) rfl dX4_addPortions_42 ?_
        refine hv_ki I (va_runV (As := []) (rest := [.int (nI i)]) C.fix (c_L_size l G h _ (isD_20 hD)) (cwV 0 C.2.2.2.2.1 gX4_addPortions_Jx4a65c_size_8abf5 rfl rfl rfl (by decide +kernel) ⟨Nat.le_of_ble_eq_true rfl, Nat.le_of_ble_eq_true rfl⟩) (hv_preV C I (isD_20 hD) (r := (RJx4a65c, TJx4a65c, 3)) rfl) rfl rfl hl.1 rfl (lv_room (Nat.le_of_ble_eq_true rfl)) dX4_addPortions_45 ⟨Nat.le_of_ble_eq_true rfl, Nat.le_of_ble_eq_true rfl⟩) (fun ru_2 u_2 H locs pu_2 I => ?_)
        obtain ⟨e1, e2⟩ := pu_2; have e1 := e1.symm; subst e1; have e2 := e2.symm; subst e2
        refine lv_icmp_ge (tgt := 77) C.1 C.2.1 dX4_addPortions_48 (by decide) (fun c48 => ?_) (fun c48 => ?_)
        · have hi48 : i = n := Nat.le_antisymm hi (hv_leN (by omega) (by omega) c48)
          rw [hi48] at hl
          refine lv_iconst (v := 0) C.1 C.2.1 dX4_addPortions_77 (by decide) ?_
          refine lv_istore (lv' := [(6, .int 0), (5, .int (lfD am (prow (ar 9) j) (l_sum (prow (ar 9) j) 20) n)), (4, .int (l_sum (prow (ar 9) j) 20)), (0, .ref (ad 0 0)), (1, .ref py), (2, .int (nI j)), (3, .ref (ad 4 j))]) C.1 C.2.1 dX4_addPortions_78 hl (by decide) rfl (fun ls hl => ?_)
          have loop2 : ∀ (k9 i : Nat), i ≤ n → n + 1 ≤ i + k9 → ∀ (h1 : hv) (t : Nat) (f : Nat → Nat) (H : Heap) (locs : List Loc), isY G h0 h1 py pl t f (adL am (prow (ar 9) j) (l_sum (prow (ar 9) j) 20) n (ar 1) (ar 5) j i) am he → hv_I G h s h1 H locs → ∀ ls : Array Slot, lv_has ls 10 [(6, .int (nI i)), (5, .int (adR am (prow (ar 9) j) (l_sum (prow (ar 9) j) 20) n i)), (4, .int (l_sum (prow (ar 9) j) 20)), (0, .ref (ad 0 0)), (1, .ref py), (2, .int (nI j)), (3, .ref (ad 4 j))] → W p l e (hv_rm 9 23 107 300) s m (([.ref (ad 0 0), .ref py, .int (nI j), .ref (ad 4 j)] : List Value).toArray) below meth c H locs (yC (adL am (prow (ar 9) j) (l_sum (prow (ar 9) j) 20) n (ar 1) (ar 5) j i).length) (yS (adL am (prow (ar 9) j) (l_sum (prow (ar 9) j) 20) n (ar 1) (ar 5) j i).length) (MQ below (va_Qv (fun u => ∃ (t2 : Nat) (f2 : Nat → Nat), isY G h0 u py pl t2 f2 (addP am (prow (ar 9) j) n (ar 1) (ar 5) j) am he) (hv_Bq G h s.heap.size) (hv_A h s.heap.size)) (([.ref (ad 0 0), .ref py, .int (nI j), .ref (ad 4 j)] : List Value).toArray) s 23 107 (hv_A h s.heap.size)) (F0 m 80 ls []) := by
            intro k9
            induction k9 with
            | zero => intro i hi hin; exact absurd hin (by omega)
            | succ k9 ih =>
              intro i hi hin h1 t f H locs hY I ls hl
              have hD : isD G h1 ad n d dl dy rf ar fm po := isD_mono hD0 (isY_k hY)
              have hlen : (adL am (prow (ar 9) j) (l_sum (prow (ar 9) j) 20) n (ar 1) (ar 5) j i).length ≤ i := adL_len _ _ _ _ _ _ _ _
              obtain ⟨y3, y4⟩ := yC_le (adL am (prow (ar 9) j) (l_sum (prow (ar 9) j) 20) n (ar 1) (ar 5) j i).length (by omega)
              refine lv_iload C.1 C.2.1 dX4_addPortions_80 (lv_at hl 0 rfl) ?_
              refine lv_aload_n C.1 C.2.1 dX4_addPortions_82 rfl (lv_at hl 3 rfl) ?_
              refine hv_get (ci := 5) (Cn := RX4) (T := TX4) (N := 6) (ref := "DividendDesk") (v := .ref (ad 2 0)) C I (isD_0 hD) wX4 rfl 2 (by decide) (by decide +kernel) (fun _ h9 => h9) rfl dX4_addPortions_83 ?_
              refine hv_ki I (va_runV (As := []) (rest := [.int (nI i)]) C.fix (c_L_size l G h1 _ (isD_20 hD)) (cwV 0 C.2.2.2.2.1 gX4_addPortions_Jx4a65c_size_8abf5 rfl rfl rfl (by decide +kernel) ⟨Nat.le_of_ble_eq_true rfl, Nat.le_of_ble_eq_true rfl⟩) (hv_preV C I (isD_20 hD) (r := (RJx4a65c, TJx4a65c, 3)) rfl) rfl rfl hl.1 rfl (lv_room (Nat.le_of_ble_eq_true rfl)) dX4_addPortions_86 ⟨(by show _ ≤ (23 : Nat); omega), (by show _ ≤ (107 : Nat); omega)⟩) (fun ru_3 u_3 H locs pu_3 I => ?_)
              obtain ⟨e1, e2⟩ := pu_3; have e1 := e1.symm; subst e1; have e2 := e2.symm; subst e2
              refine lv_icmp_ge (tgt := 176) C.1 C.2.1 dX4_addPortions_89 (by decide) (fun c89 => ?_) (fun c89 => ?_)
              · have hi89 : i = n := Nat.le_antisymm hi (hv_leN (by omega) (by omega) c89)
                rw [hi89] at hY
                exact hv_vret C hr I (⟨t, f, by unfold addP; rw [if_neg c8]; exact hY⟩) dX4_addPortions_176 (by omega) (by omega)
              · have hi89 : i < n := hv_ltN (by omega) (by omega) c89
                refine lv_aload_n C.1 C.2.1 dX4_addPortions_92 rfl (lv_at hl 6 rfl) ?_
                refine lv_iload C.1 C.2.1 dX4_addPortions_93 (lv_at hl 0 rfl) ?_
                refine hv_ki I (va_runVN (As := [.int (nI i)]) (rest := []) C.fix (c_X1_partsOf l G h1 _ (isD_4 hD hj) (isD_5 hD hj) (nI i)) ⟨va_cnB 1 C.2.2.2.2.1 gX4_addPortions_X1_partsOf_n80 rfl rfl rfl (C.nw (w := .methodLinkNest RX4 80 yX1_partsOf "DividendDesk") (by decide +kernel)) (C.ts (by decide +kernel)) (by decide +kernel) ⟨Nat.le_of_ble_eq_true rfl, Nat.le_of_ble_eq_true rfl⟩, C.ts (by decide +kernel), C.ts (by decide +kernel)⟩ (hv_preV C I (isD_4 hD hj) (r := (RX1, TX1, 6)) rfl) rfl rfl hl.1 rfl (lv_room (Nat.le_of_ble_eq_true rfl)) dX4_addPortions_95 ⟨(by show _ ≤ (23 : Nat); omega), (by show _ ≤ (107 : Nat); omega)⟩) (fun ru_4 u_4 H locs pu_4 I => ?_)
                obtain ⟨e1, e2⟩ := pu_4; have e1 := e1.symm; subst e1; have e2 := e2.symm; subst e2
                refine lv_topi (fun z_5 ez_5 => ?_)
                have ez_5 : z_5 = (prow (ar 9) j) i := by rw [ez_5]; exact pts20_i _ (by omega)
                subst ez_5
                refine lv_istore (lv' := [(7, .int ((prow (ar 9) j) i)), (6, .int (nI i)), (5, .int (adR am (prow (ar 9) j) (l_sum (prow (ar 9) j) 20) n i)), (4, .int (l_sum (prow (ar 9) j) 20)), (0, .ref (ad 0 0)), (1, .ref py), (2, .int (nI j)), (3, .ref (ad 4 j))]) C.1 C.2.1 dX4_addPortions_98 hl (by decide) rfl (fun ls hl => ?_)
                refine lv_iload C.1 C.2.1 dX4_addPortions_100 (lv_at hl 0 rfl) ?_
                refine lv_if_le (tgt := 170) C.1 C.2.1 dX4_addPortions_102 (by decide) (fun c102 => ?_) (fun c102 => ?_)
                · refine lv_iinc (v := nI (i + 1)) (lv' := [(6, .int (nI (i + 1))), (7, .int ((prow (ar 9) j) i)), (5, .int (adR am (prow (ar 9) j) (l_sum (prow (ar 9) j) 20) n i)), (4, .int (l_sum (prow (ar 9) j) 20)), (0, .ref (ad 0 0)), (1, .ref py), (2, .int (nI j)), (3, .ref (ad 4 j))]) C.1 C.2.1 dX4_addPortions_170 hl (k := 1) rfl (nI_1 i) (by decide) rfl (fun ls hl => ?_)
                  refine lv_goto (tgt := 80) C.1 C.2.1 dX4_addPortions_173 (by decide) ?_
                  have eL : adL am (prow (ar 9) j) (l_sum (prow (ar 9) j) 20) n (ar 1) (ar 5) j (i + 1) = adL am (prow (ar 9) j) (l_sum (prow (ar 9) j) 20) n (ar 1) (ar 5) j i := if_pos c102
                  refine W.widen (k := yC (adL am (prow (ar 9) j) (l_sum (prow (ar 9) j) 20) n (ar 1) (ar 5) j (i + 1)).length) (n := yS (adL am (prow (ar 9) j) (l_sum (prow (ar 9) j) 20) n (ar 1) (ar 5) j (i + 1)).length) (by rw [eL]; omega) (by rw [eL]; omega) ?_
                  exact ih (i + 1) (by omega) (by omega) _ t f _ _ (by rw [eL]; exact hY) I ls (by rw [show adR am (prow (ar 9) j) (l_sum (prow (ar 9) j) 20) n (i + 1) = adR am (prow (ar 9) j) (l_sum (prow (ar 9) j) 20) n i from if_pos c102]; exact lv_sub hl [0, 2, 3, 4, 5, 6, 7] rfl)
                · obtain ⟨⟨y5, y6⟩, y7, y8⟩ := yC_st (adL am (prow (ar 9) j) (l_sum (prow (ar 9) j) 20) n (ar 1) (ar 5) j i).length (by omega)
                  refine lv_aload_n C.1 C.2.1 dX4_addPortions_105 rfl (lv_at hl 5 rfl) ?_
                  refine hv_getN (ci := 3) (Cn := RX2) (T := TX2) (N := 3) (ref := "DividendDesk$Payment") (host := "DividendDesk") (v := .int am) C I hY.1 wX2 rfl 0 (by decide) (by decide +kernel) (fun _ h9 => h9) rfl dX4_addPortions_106 ?_
                  refine lv_iload C.1 C.2.1 dX4_addPortions_109 (lv_at hl 0 rfl) ?_
                  refine lv_iload C.1 C.2.1 dX4_addPortions_111 (lv_at hl 3 rfl) ?_
                  refine hv_ki I (va_runS (As := [.int am, .int ((prow (ar 9) j) i), .int (l_sum (prow (ar 9) j) 20)]) (rest := []) C.fix (c_X4_proportion l G h1 _ am ((prow (ar 9) j) i) (l_sum (prow (ar 9) j) 20)) (va_cwS 3 C.2.2.2.2.1 gX4_addPortions_X4_proportion rfl rfl rfl (by decide +kernel) ⟨Nat.le_of_ble_eq_true rfl, Nat.le_of_ble_eq_true rfl⟩) (hv_preS C I) rfl rfl hl.1 rfl (lv_room (Nat.le_of_ble_eq_true rfl)) dX4_addPortions_113 ⟨(by show _ ≤ (23 : Nat); omega), (by show _ ≤ (107 : Nat); omega)⟩) (fun ru_6 u_6 H locs pu_6 I => ?_)
                  obtain ⟨e1, e2⟩ := pu_6; have e1 := e1.symm; subst e1; have e2 := e2.symm; subst e2
                  refine lv_iload C.1 C.2.1 dX4_addPortions_116 (lv_at hl 2 rfl) ?_
                  refine lv_iadd C.1 C.2.1 dX4_addPortions_118 ?_
                  refine lv_istore (lv' := [(8, .int ((prp am ((prow (ar 9) j) i) (l_sum (prow (ar 9) j) 20)) + (adR am (prow (ar 9) j) (l_sum (prow (ar 9) j) 20) n i))), (7, .int ((prow (ar 9) j) i)), (6, .int (nI i)), (5, .int (adR am (prow (ar 9) j) (l_sum (prow (ar 9) j) 20) n i)), (4, .int (l_sum (prow (ar 9) j) 20)), (0, .ref (ad 0 0)), (1, .ref py), (2, .int (nI j)), (3, .ref (ad 4 j))]) C.1 C.2.1 dX4_addPortions_119 hl (by decide) rfl (fun ls hl => ?_)
                  refine lv_iconst (v := 0) C.1 C.2.1 dX4_addPortions_121 (by decide) ?_
                  refine lv_istore (lv' := [(5, .int 0), (8, .int ((prp am ((prow (ar 9) j) i) (l_sum (prow (ar 9) j) 20)) + (adR am (prow (ar 9) j) (l_sum (prow (ar 9) j) 20) n i))), (7, .int ((prow (ar 9) j) i)), (6, .int (nI i)), (4, .int (l_sum (prow (ar 9) j) 20)), (0, .ref (ad 0 0)), (1, .ref py), (2, .int (nI j)), (3, .ref (ad 4 j))]) C.1 C.2.1 dX4_addPortions_122 hl (by decide) rfl (fun ls hl => ?_)
                  refine lv_aload_n C.1 C.2.1 dX4_addPortions_124 rfl (lv_at hl 5 rfl) ?_
                  refine hv_get (ci := 5) (Cn := RX4) (T := TX4) (N := 6) (ref := "DividendDesk") (v := .ref (ad 1 0)) C I (isD_0 hD) wX4 rfl 0 (by decide) (by decide +kernel) (fun _ h9 => h9) rfl dX4_addPortions_125 ?_
                  refine lv_aload_n C.1 C.2.1 dX4_addPortions_128 rfl (lv_at hl 5 rfl) ?_
                  refine hv_get (ci := 5) (Cn := RX4) (T := TX4) (N := 6) (ref := "DividendDesk") (v := .ref (ad 2 0)) C I (isD_0 hD) wX4 rfl 2 (by decide) (by decide +kernel) (fun _ h9 => h9) rfl dX4_addPortions_129 ?_
                  refine lv_iload C.1 C.2.1 dX4_addPortions_132 (lv_at hl 3 rfl) ?_
                  refine hv_kq I (va_runV (As := [.int (nI i)]) (rest := [.ref (ad 1 0)]) C.fix (c_L_get l G h1 _ (isD_20 hD) (isD_30 hD (Nat.ne_zero_of_lt hi89)) hi89 (by omega)) (cwV 1 C.2.2.2.2.1 gX4_addPortions_Jx4a65c_get_915e3 rfl rfl rfl (by decide +kernel) ⟨Nat.le_of_ble_eq_true rfl, Nat.le_of_ble_eq_true rfl⟩) (hv_preV C I (isD_20 hD) (r := (RJx4a65c, TJx4a65c, 3)) rfl) rfl rfl hl.1 rfl (lv_room (Nat.le_of_ble_eq_true rfl)) dX4_addPortions_134 ⟨(by show _ ≤ (23 : Nat); omega), (by show _ ≤ (107 : Nat); omega)⟩) (fun ru_7 u_7 H locs pu_7 I => ?_)
                  obtain ⟨e1, e2⟩ := pu_7; have e1 := e1.symm; subst e1; have e2 := e2.symm; subst e2
                  refine hv_cast C I (isD_4 hD hi89) (r := (RX1, TX1, 6)) rfl (by decide +kernel) dX4_addPortions_137 ?_
                  refine hv_ki I (va_runS (As := [.ref (ad 1 0), .ref (ad 4 i)]) (rest := []) C.fix (c_X4_rateOf l G h1 _ (isD_10 hD) (isD_4 hD hi89)) (va_cwS 2 C.2.2.2.2.1 gX4_addPortions_X4_rateOf rfl rfl rfl (by decide +kernel) ⟨Nat.le_of_ble_eq_true rfl, Nat.le_of_ble_eq_true rfl⟩) (hv_preS C I) rfl rfl hl.1 rfl (lv_room (Nat.le_of_ble_eq_true rfl)) dX4_addPortions_140 ⟨(by show _ ≤ (23 : Nat); omega), (by show _ ≤ (107 : Nat); omega)⟩) (fun ru_8 u_8 H locs pu_8 I => ?_)
                  obtain ⟨e1, e2⟩ := pu_8; have e1 := e1.symm; subst e1; have e2 := e2.symm; subst e2
                  refine lv_istore (lv' := [(9, .int (rD (ar 1) ((ar 5) i))), (5, .int 0), (8, .int ((prp am ((prow (ar 9) j) i) (l_sum (prow (ar 9) j) 20)) + (adR am (prow (ar 9) j) (l_sum (prow (ar 9) j) 20) n i))), (7, .int ((prow (ar 9) j) i)), (6, .int (nI i)), (4, .int (l_sum (prow (ar 9) j) 20)), (0, .ref (ad 0 0)), (1, .ref py), (2, .int (nI j)), (3, .ref (ad 4 j))]) C.1 C.2.1 dX4_addPortions_143 hl (by decide) rfl (fun ls hl => ?_)
                  refine lv_aload_n C.1 C.2.1 dX4_addPortions_145 rfl (lv_at hl 7 rfl) ?_
                  refine hv_new (ci := 4) (fs := [.int 0, .int 0, .int 0]) (Cn := RX3) (T := TX3) (N := 3) C I wX3 tyX3 tyX3_ok (by decide +kernel) (by decide +kernel) (by decide +kernel) rfl (fun j hj => by rcases (show j = 0 ∨ j = 1 ∨ j = 2 by omega) with rfl | rfl | rfl <;> rfl) (by show _ ≤ (23 : Nat); omega) (by show _ ≤ (107 : Nat); omega) dX4_addPortions_146 (fun q_9 H nq_9 I => ?_)
                  obtain ⟨h_10, eh_10⟩ : ∃ z, z = hv_up h1 q_9 (.inr (4, [.int 0, .int 0, .int 0])) := ⟨_, rfl⟩
                  rw [← eh_10] at I
                  have fq : h_10 q_9 = some (.inr (4, [.int 0, .int 0, .int 0])) := by rw [eh_10]; exact hv_up_eq
                  have hYq := isY_up hY nq_9 eh_10
                  have hD : isD G h_10 ad n d dl dy rf ar fm po := isD_mono hD0 (isY_k hYq)
                  refine lv_dup C.1 C.2.1 dX4_addPortions_149 rfl ?_
                  refine lv_iload C.1 C.2.1 dX4_addPortions_150 (lv_at hl 2 rfl) ?_
                  refine lv_iload C.1 C.2.1 dX4_addPortions_152 (lv_at hl 0 rfl) ?_
                  refine lv_iload_n C.1 C.2.1 dX4_addPortions_154 rfl (lv_at hl 8 rfl) ?_
                  refine hv_ki I (va_runS (As := [.int (nI j)]) (rest := [.int (rD (ar 1) ((ar 5) i)), .int ((prp am ((prow (ar 9) j) i) (l_sum (prow (ar 9) j) 20)) + (adR am (prow (ar 9) j) (l_sum (prow (ar 9) j) 20) n i)), .ref q_9, .ref q_9, .ref py]) C.fix (c_X4_formOf l G h_10 _ (nI j)) (va_cwS 1 C.2.2.2.2.1 gX4_addPortions_X4_formOf rfl rfl rfl (by decide +kernel) ⟨Nat.le_of_ble_eq_true rfl, Nat.le_of_ble_eq_true rfl⟩) (hv_preS C I) rfl rfl hl.1 rfl (lv_room (Nat.le_of_ble_eq_true rfl)) dX4_addPortions_155 ⟨(by show _ ≤ (23 : Nat); omega), (by show _ ≤ (107 : Nat); omega)⟩) (fun ru_11 u_11 H locs pu_11 I => ?_)
                  obtain ⟨e1, e2⟩ := pu_11; have e1 := e1.symm; subst e1; have e2 := e2.symm; subst e2
                  refine lv_iload C.1 C.2.1 dX4_addPortions_158 (lv_at hl 4 rfl) ?_
                  refine hv_ki I (va_runS (As := [.int (nI i)]) (rest := [.int ((1 : Int32) <<< ((nI j) &&& 31)), .int (rD (ar 1) ((ar 5) i)), .int ((prp am ((prow (ar 9) j) i) (l_sum (prow (ar 9) j) 20)) + (adR am (prow (ar 9) j) (l_sum (prow (ar 9) j) 20) n i)), .ref q_9, .ref q_9, .ref py]) C.fix (c_X4_formOf l G h_10 _ (nI i)) (va_cwS 1 C.2.2.2.2.1 gX4_addPortions_X4_formOf rfl rfl rfl (by decide +kernel) ⟨Nat.le_of_ble_eq_true rfl, Nat.le_of_ble_eq_true rfl⟩) (hv_preS C I) rfl rfl hl.1 rfl (lv_room (Nat.le_of_ble_eq_true rfl)) dX4_addPortions_160 ⟨(by show _ ≤ (23 : Nat); omega), (by show _ ≤ (107 : Nat); omega)⟩) (fun ru_12 u_12 H locs pu_12 I => ?_)
                  obtain ⟨e1, e2⟩ := pu_12; have e1 := e1.symm; subst e1; have e2 := e2.symm; subst e2
                  refine lv_ior C.1 C.2.1 dX4_addPortions_163 ?_
                  refine hv_kv I (va_runIN (As := [.int ((prp am ((prow (ar 9) j) i) (l_sum (prow (ar 9) j) 20)) + (adR am (prow (ar 9) j) (l_sum (prow (ar 9) j) 20) n i)), .int (rD (ar 1) ((ar 5) i)), .int (((1 : Int32) <<< ((nI j) &&& 31)) ||| ((1 : Int32) <<< ((nI i) &&& 31)))]) (rest := [.ref q_9, .ref py]) C.fix (c_X3_init l G h_10 _ fq ((prp am ((prow (ar 9) j) i) (l_sum (prow (ar 9) j) 20)) + (adR am (prow (ar 9) j) (l_sum (prow (ar 9) j) 20) n i)) (rD (ar 1) ((ar 5) i)) (((1 : Int32) <<< ((nI j) &&& 31)) ||| ((1 : Int32) <<< ((nI i) &&& 31)))) ⟨va_cnB 3 C.2.2.2.2.1 gX4_addPortions_X3_init_n222 rfl rfl rfl (C.nw (w := .methodLinkNest RX4 222 yX3_init "DividendDesk") (by decide +kernel)) (C.ts (by decide +kernel)) (by decide +kernel) ⟨Nat.le_of_ble_eq_true rfl, Nat.le_of_ble_eq_true rfl⟩, rfl, C.ts (by decide +kernel)⟩ (hv_preS C I) rfl rfl hl.1 rfl (lv_room (Nat.le_of_ble_eq_true rfl)) dX4_addPortions_164 ⟨(by show _ ≤ (23 : Nat); omega), (by show _ ≤ (107 : Nat); omega)⟩) (fun u_13 H locs pu_13 I => ?_)
                  have eu : u_13 = hv_up h1 q_9 (poE ((prp am ((prow (ar 9) j) i) (l_sum (prow (ar 9) j) 20)) + (adR am (prow (ar 9) j) (l_sum (prow (ar 9) j) 20) n i), rD (ar 1) ((ar 5) i), ((1 : Int32) <<< ((nI j) &&& 31)) ||| ((1 : Int32) <<< ((nI i) &&& 31)))) := by rw [pu_13, eh_10, hv_up_up]
                  refine hv_kv I (va_runVN (As := [.ref q_9]) (rest := []) C.fix (c_Y_add l G u_13 _ hY nq_9 eu (by omega)) ⟨va_cnB 1 C.2.2.2.2.1 gX4_addPortions_X2_add_n225 rfl rfl rfl (C.nw (w := .methodLinkNest RX4 225 yX2_add "DividendDesk") (by decide +kernel)) (C.ts (by decide +kernel)) (by decide +kernel) ⟨Nat.le_of_ble_eq_true rfl, Nat.le_of_ble_eq_true rfl⟩, C.ts (by decide +kernel), C.ts (by decide +kernel)⟩ (hv_preV C I (isY_up hY nq_9 eu).1 (r := (RX2, TX2, 3)) rfl) rfl rfl hl.1 rfl (lv_room (Nat.le_of_ble_eq_true rfl)) dX4_addPortions_167 ⟨(by show _ ≤ (23 : Nat); omega), (by show _ ≤ (107 : Nat); omega)⟩) (fun u_14 H locs pu_14 I => ?_)
                  obtain ⟨t, f, hY⟩ := pu_14
                  have hD : isD G u_14 ad n d dl dy rf ar fm po := isD_mono hD0 (isY_k hY)
                  refine lv_iinc (v := nI (i + 1)) (lv' := [(6, .int (nI (i + 1))), (9, .int (rD (ar 1) ((ar 5) i))), (5, .int 0), (8, .int ((prp am ((prow (ar 9) j) i) (l_sum (prow (ar 9) j) 20)) + (adR am (prow (ar 9) j) (l_sum (prow (ar 9) j) 20) n i))), (7, .int ((prow (ar 9) j) i)), (4, .int (l_sum (prow (ar 9) j) 20)), (0, .ref (ad 0 0)), (1, .ref py), (2, .int (nI j)), (3, .ref (ad 4 j))]) C.1 C.2.1 dX4_addPortions_170 hl (k := 4) rfl (nI_1 i) (by decide) rfl (fun ls hl => ?_)
                  refine lv_goto (tgt := 80) C.1 C.2.1 dX4_addPortions_173 (by decide) ?_
                  have eL : adL am (prow (ar 9) j) (l_sum (prow (ar 9) j) 20) n (ar 1) (ar 5) j (i + 1) = _ := if_neg c102
                  have eN : (adL am (prow (ar 9) j) (l_sum (prow (ar 9) j) 20) n (ar 1) (ar 5) j (i + 1)).length = (adL am (prow (ar 9) j) (l_sum (prow (ar 9) j) 20) n (ar 1) (ar 5) j i).length + 1 := by rw [eL, List.length_append]; rfl
                  refine W.widen (k := yC (adL am (prow (ar 9) j) (l_sum (prow (ar 9) j) 20) n (ar 1) (ar 5) j (i + 1)).length) (n := yS (adL am (prow (ar 9) j) (l_sum (prow (ar 9) j) 20) n (ar 1) (ar 5) j (i + 1)).length) (by rw [eN]; omega) (by rw [eN]; omega) ?_
                  exact ih (i + 1) (by omega) (by omega) _ t f _ _ (by rw [eL]; exact hY) I ls (by rw [show adR am (prow (ar 9) j) (l_sum (prow (ar 9) j) 20) n (i + 1) = 0 from if_neg c102]; exact lv_sub hl [0, 2, 5, 6, 7, 8, 9] rfl)
          refine W.widen (k := yC 0) (n := yS 0) (Nat.le_of_ble_eq_true rfl) (Nat.le_of_ble_eq_true rfl) ?_
          exact loop2 (n + 1) 0 (Nat.zero_le _) (by omega) _ t f _ _ hY I ls (lv_sub hl [0, 1, 2, 3, 4, 5, 6] rfl)
        · have hi48 : i < n := hv_ltN (by omega) (by omega) c48
          refine lv_iload C.1 C.2.1 dX4_addPortions_51 (lv_at hl 1 rfl) ?_
          refine lv_aload_n C.1 C.2.1 dX4_addPortions_53 rfl (lv_at hl 4 rfl) ?_
          refine hv_getN (ci := 3) (Cn := RX2) (T := TX2) (N := 3) (ref := "DividendDesk$Payment") (host := "DividendDesk") (v := .int am) C I hY.1 wX2 rfl 0 (by decide) (by decide +kernel) (fun _ h9 => h9) rfl dX4_addPortions_54 ?_
          refine lv_aload_n C.1 C.2.1 dX4_addPortions_57 rfl (lv_at hl 6 rfl) ?_
          refine lv_iload C.1 C.2.1 dX4_addPortions_58 (lv_at hl 0 rfl) ?_
          refine hv_ki I (va_runVN (As := [.int (nI i)]) (rest := [.int am, .int (lfD am (prow (ar 9) j) (l_sum (prow (ar 9) j) 20) i)]) C.fix (c_X1_partsOf l G h _ (isD_4 hD hj) (isD_5 hD hj) (nI i)) ⟨va_cnB 1 C.2.2.2.2.1 gX4_addPortions_X1_partsOf_n80 rfl rfl rfl (C.nw (w := .methodLinkNest RX4 80 yX1_partsOf "DividendDesk") (by decide +kernel)) (C.ts (by decide +kernel)) (by decide +kernel) ⟨Nat.le_of_ble_eq_true rfl, Nat.le_of_ble_eq_true rfl⟩, C.ts (by decide +kernel), C.ts (by decide +kernel)⟩ (hv_preV C I (isD_4 hD hj) (r := (RX1, TX1, 6)) rfl) rfl rfl hl.1 rfl (lv_room (Nat.le_of_ble_eq_true rfl)) dX4_addPortions_60 ⟨Nat.le_of_ble_eq_true rfl, Nat.le_of_ble_eq_true rfl⟩) (fun ru_15 u_15 H locs pu_15 I => ?_)
          obtain ⟨e1, e2⟩ := pu_15; have e1 := e1.symm; subst e1; have e2 := e2.symm; subst e2
          refine lv_topi (fun z_16 ez_16 => ?_)
          have ez_16 : z_16 = (prow (ar 9) j) i := by rw [ez_16]; exact pts20_i _ (by omega)
          subst ez_16
          refine lv_iload C.1 C.2.1 dX4_addPortions_63 (lv_at hl 2 rfl) ?_
          refine hv_ki I (va_runS (As := [.int am, .int ((prow (ar 9) j) i), .int (l_sum (prow (ar 9) j) 20)]) (rest := [.int (lfD am (prow (ar 9) j) (l_sum (prow (ar 9) j) 20) i)]) C.fix (c_X4_proportion l G h _ am ((prow (ar 9) j) i) (l_sum (prow (ar 9) j) 20)) (va_cwS 3 C.2.2.2.2.1 gX4_addPortions_X4_proportion rfl rfl rfl (by decide +kernel) ⟨Nat.le_of_ble_eq_true rfl, Nat.le_of_ble_eq_true rfl⟩) (hv_preS C I) rfl rfl hl.1 rfl (lv_room (Nat.le_of_ble_eq_true rfl)) dX4_addPortions_65 ⟨Nat.le_of_ble_eq_true rfl, Nat.le_of_ble_eq_true rfl⟩) (fun ru_17 u_17 H locs pu_17 I => ?_)
          obtain ⟨e1, e2⟩ := pu_17; have e1 := e1.symm; subst e1; have e2 := e2.symm; subst e2
          refine lv_isub C.1 C.2.1 dX4_addPortions_68 ?_
          refine lv_topi (fun z_18 ez_18 => ?_)
          have ez_18 : z_18 = lfD am (prow (ar 9) j) (l_sum (prow (ar 9) j) 20) (i + 1) := by rw [ez_18]; rfl
          subst ez_18
          refine lv_istore (lv' := [(5, .int (lfD am (prow (ar 9) j) (l_sum (prow (ar 9) j) 20) (i + 1))), (6, .int (nI i)), (4, .int (l_sum (prow (ar 9) j) 20)), (0, .ref (ad 0 0)), (1, .ref py), (2, .int (nI j)), (3, .ref (ad 4 j))]) C.1 C.2.1 dX4_addPortions_69 hl (by decide) rfl (fun ls hl => ?_)
          refine lv_iinc (v := nI (i + 1)) (lv' := [(6, .int (nI (i + 1))), (5, .int (lfD am (prow (ar 9) j) (l_sum (prow (ar 9) j) 20) (i + 1))), (4, .int (l_sum (prow (ar 9) j) 20)), (0, .ref (ad 0 0)), (1, .ref py), (2, .int (nI j)), (3, .ref (ad 4 j))]) C.1 C.2.1 dX4_addPortions_71 hl (k := 1) rfl (nI_1 i) (by decide) rfl (fun ls hl => ?_)
          refine lv_goto (tgt := 39) C.1 C.2.1 dX4_addPortions_74 (by decide) ?_
          exact ih (i + 1) (by omega) (by omega)  _ _ I ls (lv_sub hl [0, 1, 2, 3, 4, 5, 6] rfl)
    exact loop (n + 1) 0 (Nat.zero_le _) (by omega) _ _ I ls (lv_sub hl [0, 1, 2, 3, 4, 5, 6] rfl)
  · refine lv_aload_n C.1 C.2.1 dX4_addPortions_11 rfl (lv_at hl 2 rfl) ?_
    refine hv_new (ci := 4) (fs := [.int 0, .int 0, .int 0]) (Cn := RX3) (T := TX3) (N := 3) C I wX3 tyX3 tyX3_ok (by decide +kernel) (by decide +kernel) (by decide +kernel) rfl (fun j hj => by rcases (show j = 0 ∨ j = 1 ∨ j = 2 by omega) with rfl | rfl | rfl <;> rfl) (Nat.le_of_ble_eq_true rfl) (Nat.le_of_ble_eq_true rfl) dX4_addPortions_12 (fun q_19 H nq_19 I => ?_)
    obtain ⟨h_20, eh_20⟩ : ∃ z, z = hv_up h q_19 (.inr (4, [.int 0, .int 0, .int 0])) := ⟨_, rfl⟩
    rw [← eh_20] at I
    have fq : h_20 q_19 = some (.inr (4, [.int 0, .int 0, .int 0])) := by rw [eh_20]; exact hv_up_eq
    have hYq := isY_up hY nq_19 eh_20
    have hD : isD G h_20 ad n d dl dy rf ar fm po := isD_mono hD0 (isY_k hYq)
    refine lv_dup C.1 C.2.1 dX4_addPortions_15 rfl ?_
    refine lv_aload_n C.1 C.2.1 dX4_addPortions_16 rfl (lv_at hl 2 rfl) ?_
    refine hv_getN (ci := 3) (Cn := RX2) (T := TX2) (N := 3) (ref := "DividendDesk$Payment") (host := "DividendDesk") (v := .int am) C I hYq.1 wX2 rfl 0 (by decide) (by decide +kernel) (fun _ h9 => h9) rfl dX4_addPortions_17 ?_
    refine lv_bipush (v := 30) C.1 C.2.1 dX4_addPortions_20 (by decide) ?_
    refine lv_iconst (v := 0) C.1 C.2.1 dX4_addPortions_22 (by decide) ?_
    refine hv_kv I (va_runIN (As := [.int am, .int 30, .int 0]) (rest := [.ref q_19, .ref py]) C.fix (c_X3_init l G h_20 _ fq am 30 0) ⟨va_cnB 3 C.2.2.2.2.1 gX4_addPortions_X3_init_n222 rfl rfl rfl (C.nw (w := .methodLinkNest RX4 222 yX3_init "DividendDesk") (by decide +kernel)) (C.ts (by decide +kernel)) (by decide +kernel) ⟨Nat.le_of_ble_eq_true rfl, Nat.le_of_ble_eq_true rfl⟩, rfl, C.ts (by decide +kernel)⟩ (hv_preS C I) rfl rfl hl.1 rfl (lv_room (Nat.le_of_ble_eq_true rfl)) dX4_addPortions_23 ⟨Nat.le_of_ble_eq_true rfl, Nat.le_of_ble_eq_true rfl⟩) (fun u_21 H locs pu_21 I => ?_)
    have eu : u_21 = hv_up h q_19 (poE (am, 30, 0)) := by rw [pu_21, eh_20, hv_up_up]
    refine hv_kv I (va_runVN (As := [.ref q_19]) (rest := []) C.fix (c_Y_add l G u_21 _ hY nq_19 eu (by decide)) ⟨va_cnB 1 C.2.2.2.2.1 gX4_addPortions_X2_add_n225 rfl rfl rfl (C.nw (w := .methodLinkNest RX4 225 yX2_add "DividendDesk") (by decide +kernel)) (C.ts (by decide +kernel)) (by decide +kernel) ⟨Nat.le_of_ble_eq_true rfl, Nat.le_of_ble_eq_true rfl⟩, C.ts (by decide +kernel), C.ts (by decide +kernel)⟩ (hv_preV C I (isY_up hY nq_19 eu).1 (r := (RX2, TX2, 3)) rfl) rfl rfl hl.1 rfl (lv_room (Nat.le_of_ble_eq_true rfl)) dX4_addPortions_26 ⟨Nat.le_of_ble_eq_true rfl, Nat.le_of_ble_eq_true rfl⟩) (fun u_22 H locs pu_22 I => ?_)
    obtain ⟨t, f, hY⟩ := pu_22
    have hD : isD G u_22 ad n d dl dy rf ar fm po := isD_mono hD0 (isY_k hY)
    exact hv_vret C hr I (⟨t, f, by unfold addP; rw [if_pos c8]; exact hY⟩) dX4_addPortions_29 (Nat.le_of_ble_eq_true rfl) (Nat.le_of_ble_eq_true rfl)
