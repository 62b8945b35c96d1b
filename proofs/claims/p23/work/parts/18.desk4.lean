/-! ===== the desk: new nodes ===== -/
theorem gC_1 (n : Nat) : gC n ≤ 1 := by unfold gC; split <;> omega
theorem gS_49 (n : Nat) : gS n ≤ 49 := by
  unfold gS
  split
  · exact capN_49 _
  · omega
def adU (ad : Nat → Nat → Nat) (k i a : Nat) : Nat → Nat → Nat := fun k2 i2 => if k2 = k ∧ i2 = i then a else ad k2 i2
theorem adU_eq (ad : Nat → Nat → Nat) (k i a : Nat) : adU ad k i a k i = a := if_pos ⟨rfl, rfl⟩
theorem adU_ne {ad : Nat → Nat → Nat} {k i a k2 i2 : Nat} (h : ¬ (k2 = k ∧ i2 = i)) : adU ad k i a k2 i2 = ad k2 i2 := if_neg h
theorem adU_nk {ad : Nat → Nat → Nat} {k i a k2 : Nat} (h : ¬ k2 = k) : adU ad k i a k2 = ad k2 := by
  funext i2
  exact if_neg (fun z => h z.1)
theorem isD_gen {G : hv_G} {h u : hv} {ad ad2 : Nat → Nat → Nat} {n d dl n2 d2 dl2 : Nat} {dy dy2 : Int32} {rf rf2 : Int64} {ar ar2 : Nat → Nat → Int32} {fm fm2 : Nat → Int32} {po po2 : Nat → List (Int32 × Int32 × Int32)}
    (hD : isD G h ad n d dl dy rf ar fm po) (K : Nat → Nat → Prop)
    (h1 : ∀ k i, dLive n2 d2 dl2 (ar2 12) po2 k i → (dLive n d dl (ar 12) po k i ∧ ad2 k i = ad k i) ∨ (h (ad2 k i) = none ∧ K k i))
    (hK : ∀ k i k2 i2, K k i → K k2 i2 → ad2 k i = ad2 k2 i2 → k = k2 ∧ i = i2)
    (hc : ∀ k i, dLive n2 d2 dl2 (ar2 12) po2 k i → u (ad2 k i) = some (dCell G ad2 n2 d2 dl2 dy2 rf2 ar2 fm2 po2 k i)) : isD G u ad2 n2 d2 dl2 dy2 rf2 ar2 fm2 po2 := by
  refine ⟨hc, fun k i k2 i2 hl hl2 e => ?_⟩
  rcases h1 k i hl with ⟨a1, a2⟩ | ⟨a1, a2⟩ <;> rcases h1 k2 i2 hl2 with ⟨b1, b2⟩ | ⟨b1, b2⟩
  · rw [a2, b2] at e
    exact hD.2 _ _ _ _ a1 b1 e
  · rw [a2] at e
    have z := hD.1 k i a1
    rw [e, b1] at z
    cases z
  · rw [b2] at e
    have z := hD.1 k2 i2 b1
    rw [← e, a1] at z
    cases z
  · exact hK _ _ _ _ a2 b2 e
/-- a holder more -/
theorem isD_addH {G : hv_G} {h u : hv} {ad : Nat → Nat → Nat} {n d dl : Nat} {dy : Int32} {rf : Int64} {ar : Nat → Nat → Int32} {fm : Nat → Int32} {po : Nat → List (Int32 × Int32 × Int32)}
    (hD : isD G h ad n d dl dy rf ar fm po) {q qp t2 : Nat} {kd ld : Int32} (z6 : ar 6 n = 0) (z7 : ar 7 n = -1) (z8 : ar 8 n = -1) (z9 : ∀ k, k < 20 → ar 9 (20 * n + k) = 0)
    (hq : h q = none) (hqp : h qp = none) (hne : ¬ qp = q) (ht : (t2 = ad 3 0 ∧ ¬ n = 0) ∨ (h t2 = none ∧ ¬ t2 = q ∧ ¬ t2 = qp))
    (uq : u q = some (.inr (2, [.int kd, .int ld, .ref qp, .int 0, .int (-1), .int (-1)]))) (up : u qp = some (.inl (G.2.1 0, 20, .inl (fun _ => 0)))) (ut : u t2 = some (lArr G (va_up (ad 4) n q) (n + 1))) (ul : u (ad 2 0) = some (lObj G t2 (n + 1)))
    (uo : ∀ b, ¬ b = q → ¬ b = qp → ¬ b = t2 → ¬ b = ad 2 0 → u b = h b) :
    isD G u (adU (adU (adU ad 4 n q) 5 n qp) 3 0 t2) (n + 1) d dl dy rf (va_up (va_up ar 4 (upd (ar 4) n kd)) 5 (upd (ar 5) n ld)) fm po := by
  have nk : ∀ k, ¬ k = 3 → ¬ k = 4 → ¬ k = 5 → adU (adU (adU ad 4 n q) 5 n qp) 3 0 t2 k = ad k := fun k a b c => by rw [adU_nk a, adU_nk c, adU_nk b]
  have n4 : adU (adU (adU ad 4 n q) 5 n qp) 3 0 t2 4 = va_up (ad 4) n q := by
    rw [adU_nk (by decide), adU_nk (by decide)]
    funext i
    unfold adU va_up
    by_cases c : i = n <;> simp [c]
  have n5 : adU (adU (adU ad 4 n q) 5 n qp) 3 0 t2 5 = va_up (ad 5) n qp := by
    rw [adU_nk (by decide)]
    funext i
    unfold adU va_up
    by_cases c : i = n <;> simp [c]
  have n3 : adU (adU (adU ad 4 n q) 5 n qp) 3 0 t2 3 = va_up (ad 3) 0 t2 := by
    funext i
    unfold adU va_up
    by_cases c : i = 0 <;> simp [c]
  have keep : ∀ k i, dLive n d dl (ar 12) po k i → ¬ (k = 3 ∧ i = 0) → ¬ (k = 2 ∧ i = 0) → u (ad k i) = some (dCell G ad n d dl dy rf ar fm po k i) := fun k i hl c1 c2 => by
    have z := hD.1 k i hl
    rw [uo (ad k i) (fun e => by rw [e, hq] at z; cases z) (fun e => by rw [e, hqp] at z; cases z) (fun e => ?_) (fun e => c2 (hD.2 _ _ _ _ hl (show 0 < 2 by decide) e))]
    · exact z
    · rcases ht with ⟨t1, t0⟩ | ⟨t1, _⟩
      · rw [t1] at e
        exact c1 (hD.2 _ _ _ _ hl (Or.inl ⟨rfl, t0⟩) e)
      · rw [e, t1] at z
        cases z
  refine isD_gen hD (fun k i => (k = 4 ∧ i = n) ∨ (k = 5 ∧ i = n) ∨ (k = 3 ∧ i = 0 ∧ ¬ t2 = q ∧ ¬ t2 = qp)) (fun k i hl => ?_) (fun k i k2 i2 hk hk2 e => ?_) (fun k i hl => ?_)
  · match k, hl with
    | 0, hl => exact Or.inl ⟨hl, by rw [nk 0 (by decide) (by decide) (by decide)]⟩
    | 1, hl => exact Or.inl ⟨hl, by rw [nk 1 (by decide) (by decide) (by decide)]⟩
    | 2, hl => exact Or.inl ⟨hl, by rw [nk 2 (by decide) (by decide) (by decide)]⟩
    | 3, hl =>
      rw [n3]
      rcases hl with ⟨rfl, _⟩ | ⟨rfl, c⟩
      · rcases ht with ⟨t1, t0⟩ | ⟨t1, t3, t4⟩
        · exact Or.inl ⟨Or.inl ⟨rfl, t0⟩, by rw [va_up_self, t1]⟩
        · exact Or.inr ⟨by rw [va_up_self]; exact t1, Or.inr (Or.inr ⟨rfl, rfl, t3, t4⟩)⟩
      · exact Or.inl ⟨Or.inr ⟨rfl, c⟩, va_up_ne _ _ (by decide)⟩
    | 4, hl =>
      rw [n4]
      by_cases c : i = n
      · subst c
        exact Or.inr ⟨by rw [va_up_self]; exact hq, Or.inl ⟨rfl, rfl⟩⟩
      · exact Or.inl ⟨Nat.lt_of_le_of_ne (Nat.le_of_lt_succ hl) c, va_up_ne _ _ c⟩
    | 5, hl =>
      rw [n5]
      by_cases c : i = n
      · subst c
        exact Or.inr ⟨by rw [va_up_self]; exact hqp, Or.inr (Or.inl ⟨rfl, rfl⟩)⟩
      · exact Or.inl ⟨Nat.lt_of_le_of_ne (Nat.le_of_lt_succ hl) c, va_up_ne _ _ c⟩
    | 6, hl => exact Or.inl ⟨hl, by rw [nk 6 (by decide) (by decide) (by decide)]⟩
    | 7, hl => exact Or.inl ⟨hl, by rw [nk 7 (by decide) (by decide) (by decide)]⟩
    | 8, hl => exact Or.inl ⟨hl, by rw [nk 8 (by decide) (by decide) (by decide)]⟩
    | 9, hl => exact Or.inl ⟨hl, by rw [nk 9 (by decide) (by decide) (by decide)]⟩
    | 10, hl => exact Or.inl ⟨hl, by rw [nk 10 (by decide) (by decide) (by decide)]⟩
    | 11, hl => exact Or.inl ⟨hl, by rw [nk 11 (by decide) (by decide) (by decide)]⟩
    | (x + 12), hl => exact hl.elim
  · rcases hk with ⟨rfl, rfl⟩ | ⟨rfl, rfl⟩ | ⟨rfl, rfl, t3, t4⟩ <;> rcases hk2 with ⟨rfl, rfl⟩ | ⟨rfl, rfl⟩ | ⟨rfl, rfl, t5, t6⟩ <;> simp only [n3, n4, n5, va_up_self] at e
    · exact ⟨rfl, rfl⟩
    · exact absurd e.symm hne
    · exact absurd e.symm t5
    · exact absurd e hne
    · exact ⟨rfl, rfl⟩
    · exact absurd e.symm t6
    · exact absurd e t3
    · exact absurd e t4
    · exact ⟨rfl, rfl⟩
  · match k, hl with
    | 0, hl =>
      rw [nk 0 (by decide) (by decide) (by decide)]
      exact keep 0 i hl (by omega) (by omega)
    | 1, hl =>
      rw [nk 1 (by decide) (by decide) (by decide)]
      exact keep 1 i hl (by omega) (by omega)
    | 2, hl =>
      rw [nk 2 (by decide) (by decide) (by decide)]
      by_cases c : i = 0
      · subst c
        exact ul
      · rw [keep 2 i hl (by omega) (by omega)]
        show some (if i = 0 then _ else _) = some (if i = 0 then _ else _)
        rw [if_neg c, if_neg c, n3, va_up_ne _ _ (by decide)]
    | 3, hl =>
      rw [n3]
      by_cases c : i = 0
      · subst c
        rw [va_up_self]
        show _ = some (lArr G (adU (adU (adU ad 4 n q) 5 n qp) 3 0 t2 4) (n + 1))
        rw [n4]
        exact ut
      · rw [va_up_ne _ _ c, keep 3 i (hl.elim (fun z => absurd z.1 c) (fun z => Or.inr z)) (by omega) (by omega)]
        show some (if i = 0 then _ else _) = some (if i = 0 then _ else _)
        rw [if_neg c, if_neg c, nk 6 (by decide) (by decide) (by decide)]
    | 4, hl =>
      show u (adU (adU (adU ad 4 n q) 5 n qp) 3 0 t2 4 i) = some (hoE _ (adU (adU (adU ad 4 n q) 5 n qp) 3 0 t2 5 i) i)
      rw [n4, n5]
      by_cases c : i = n
      · subst c
        rw [va_up_self, va_up_self, uq]
        unfold hoE
        simp [va_up, upd, z6, z7, z8]
      · rw [va_up_ne _ _ c, va_up_ne _ _ c, keep 4 i (Nat.lt_of_le_of_ne (Nat.le_of_lt_succ hl) c) (by omega) (by omega)]
        show some (hoE _ _ _) = some (hoE _ _ _)
        unfold hoE
        simp [va_up, upd, c]
    | 5, hl =>
      rw [n5]
      by_cases c : i = n
      · subst c
        rw [va_up_self, up]
        show _ = some (Sum.inl (G.2.1 0, 20, Sum.inl (prow (ar 9) i)))
        have e : prow (ar 9) i = fun _ => 0 := by
          funext k
          unfold prow
          split
          · exact z9 k (by assumption)
          · rfl
        rw [e]
      · rw [va_up_ne _ _ c, keep 5 i (Nat.lt_of_le_of_ne (Nat.le_of_lt_succ hl) c) (by omega) (by omega)]
        rfl
    | 6, hl =>
      rw [nk 6 (by decide) (by decide) (by decide), keep 6 i hl (by omega) (by omega)]
      show some (Sum.inr (1, _)) = some (Sum.inr (1, _))
      rw [nk 7 (by decide) (by decide) (by decide)]
      rfl
    | 7, hl =>
      rw [nk 7 (by decide) (by decide) (by decide), keep 7 i hl (by omega) (by omega)]
      show some (Sum.inl (_, _, _)) = some (Sum.inl (_, _, _))
      rw [nk 8 (by decide) (by decide) (by decide)]
      rfl
    | 8, hl =>
      rw [nk 8 (by decide) (by decide) (by decide), keep 8 i hl (by omega) (by omega)]
      show some (Sum.inr (3, _)) = some (Sum.inr (3, _))
      rw [nk 10 (by decide) (by decide) (by decide)]
      rfl
    | 9, hl =>
      rw [nk 9 (by decide) (by decide) (by decide), keep 9 i hl (by omega) (by omega)]
      rfl
    | 10, hl =>
      rw [nk 10 (by decide) (by decide) (by decide), keep 10 i hl (by omega) (by omega)]
      show some (lObj _ _ _) = some (lObj _ _ _)
      rw [nk 11 (by decide) (by decide) (by decide)]
    | 11, hl =>
      rw [nk 11 (by decide) (by decide) (by decide), keep 11 i hl (by omega) (by omega)]
      show some (lArr _ _ _) = some (lArr _ _ _)
      rw [nk 9 (by decide) (by decide) (by decide)]
    | (x + 12), hl => exact hl.elim
set_option maxHeartbeats 4000000 in
set_option maxRecDepth 100000 in
theorem c_X4_addHolder (l : Launch) (hlt : l.stackTraces = false) (G : hv_G) (h : hv) (sz : Nat) {ad : Nat → Nat → Nat} {n d dl : Nat} {dy : Int32} {rf : Int64} {ar : Nat → Nat → Int32} {fm : Nat → Int32} {po : Nat → List (Int32 × Int32 × Int32)} (hD : isD G h ad n d dl dy rf ar fm po) (p0 p1 : Int32) (hn : n ≤ 20) (hz : n < 20 → ar 6 n = 0 ∧ ar 7 n = -1 ∧ ar 8 n = -1 ∧ ∀ k, k < 20 → ar 9 (20 * n + k) = 0) : hv_Xi l yX4_addHolder wsX4_addHolder 10 350 3 75 G h sz [.ref (ad 0 0), .int p0, .int p1] (fun r u => fAh p0 p1 n = 0 ∧ r = nI n ∧ ∃ ad2, ad2 0 0 = ad 0 0 ∧ isD G u ad2 (n + 1) d dl dy rf (va_up (va_up ar 4 (upd (ar 4) n p0)) 5 (upd (ar 5) n p1)) fm po) (fun E u => u = h ∧ ((fAh p0 p1 n = 1 ∧ E = "java/lang/IllegalArgumentException") ∨ (fAh p0 p1 n = 2 ∧ E = "java/lang/IllegalStateException"))) := by
  have wX1 : ∀ w ∈ wsX10, w ∈ wsX4_addHolder := by decide +kernel
  have wX4 : ∀ w ∈ wsX40, w ∈ wsX4_addHolder := by decide +kernel
  refine hv_enterX (y := yX4_addHolder) (avs := [.ref (ad 0 0), .int p0, .int p1]) (maxL := 3) (Qf := fun sz => va_Qi (fun r u => fAh p0 p1 n = 0 ∧ r = nI n ∧ ∃ ad2, ad2 0 0 = ad 0 0 ∧ isD G u ad2 (n + 1) d dl dy rf (va_up (va_up ar 4 (upd (ar 4) n p0)) 5 (upd (ar 5) n p1)) fm po) (hv_Bq G h sz) (hv_A h sz)) (XC := fun sz => hv_X G h sz (fun E u => u = h ∧ ((fAh p0 p1 n = 1 ∧ E = "java/lang/IllegalArgumentException") ∨ (fAh p0 p1 n = 2 ∧ E = "java/lang/IllegalStateException")))) (by decide) rfl rfl (Nat.le_of_ble_eq_true rfl) ?_
  intro p e s m below meth c hr ht C I ls hl
  have hl : lv_has ls 3 [(0, .ref (ad 0 0)), (1, .int p0), (2, .int p1)] := hl
  refine lv_iload_n C.1 C.2.1 dX4_addHolder_0 rfl (lv_at hl 1 rfl) ?_
  refine lv_iconst (v := 0) C.1 C.2.1 dX4_addHolder_1 (by decide) ?_
  refine lv_iconst (v := 2) C.1 C.2.1 dX4_addHolder_2 (by decide) ?_
  refine hv_ki I (va_runS (As := [.int p0, .int 0, .int 2]) (rest := []) C.fix (c_X4_isWithin l G h _ p0 0 2) (va_cwS 3 C.2.2.2.2.1 gX4_addHolder_X4_isWithin rfl rfl rfl (by decide +kernel) ⟨Nat.le_of_ble_eq_true rfl, Nat.le_of_ble_eq_true rfl⟩) (hv_preS C I) rfl rfl hl.1 rfl (lv_room (Nat.le_of_ble_eq_true rfl)) dX4_addHolder_3 ⟨Nat.le_of_ble_eq_true rfl, Nat.le_of_ble_eq_true rfl⟩) (fun ru_1 u_1 H locs pu_1 I => ?_)
  obtain ⟨e1, e2⟩ := pu_1; have e1 := e1.symm; subst e1; have e2 := e2.symm; subst e2
  refine lv_if_ne (tgt := 19) C.1 C.2.1 dX4_addHolder_6 (by decide) (fun c6 => ?_) (fun c6 => ?_)
  · refine lv_iload_n C.1 C.2.1 dX4_addHolder_19 rfl (lv_at hl 1 rfl) ?_
    refine lv_iconst (v := 2) C.1 C.2.1 dX4_addHolder_20 (by decide) ?_
    refine lv_icmp_ne (tgt := 32) C.1 C.2.1 dX4_addHolder_21 (by decide) (fun c21 => ?_) (fun c21 => ?_)
    · refine lv_iload_n C.1 C.2.1 dX4_addHolder_32 rfl (lv_at hl 2 rfl) ?_
      refine hv_ki I (va_runS (As := [.int p1]) (rest := []) C.fix (c_X4_isLand l G h _ p1) (va_cwS 1 C.2.2.2.2.1 gX4_addHolder_X4_isLand rfl rfl rfl (by decide +kernel) ⟨Nat.le_of_ble_eq_true rfl, Nat.le_of_ble_eq_true rfl⟩) (hv_preS C I) rfl rfl hl.1 rfl (lv_room (Nat.le_of_ble_eq_true rfl)) dX4_addHolder_33 ⟨Nat.le_of_ble_eq_true rfl, Nat.le_of_ble_eq_true rfl⟩) (fun ru_2 u_2 H locs pu_2 I => ?_)
      obtain ⟨e1, e2⟩ := pu_2; have e1 := e1.symm; subst e1; have e2 := e2.symm; subst e2
      refine lv_if_ne (tgt := 49) C.1 C.2.1 dX4_addHolder_36 (by decide) (fun c36 => ?_) (fun c36 => ?_)
      · refine lv_aload_n C.1 C.2.1 dX4_addHolder_49 rfl (lv_at hl 0 rfl) ?_
        refine hv_get (ci := 5) (Cn := RX4) (T := TX4) (N := 6) (ref := "DividendDesk") (v := .ref (ad 2 0)) C I (isD_0 hD) wX4 rfl 2 (by decide) (by decide +kernel) (fun _ h9 => h9) rfl dX4_addHolder_50 ?_
        refine hv_ki I (va_runV (As := []) (rest := []) C.fix (c_L_size l G h _ (isD_20 hD)) (cwV 0 C.2.2.2.2.1 gX4_addHolder_Jx4a65c_size_8abf5 rfl rfl rfl (by decide +kernel) ⟨Nat.le_of_ble_eq_true rfl, Nat.le_of_ble_eq_true rfl⟩) (hv_preV C I (isD_20 hD) (r := (RJx4a65c, TJx4a65c, 3)) rfl) rfl rfl hl.1 rfl (lv_room (Nat.le_of_ble_eq_true rfl)) dX4_addHolder_53 ⟨Nat.le_of_ble_eq_true rfl, Nat.le_of_ble_eq_true rfl⟩) (fun ru_3 u_3 H locs pu_3 I => ?_)
        obtain ⟨e1, e2⟩ := pu_3; have e1 := e1.symm; subst e1; have e2 := e2.symm; subst e2
        refine lv_bipush (v := 20) C.1 C.2.1 dX4_addHolder_56 (by decide) ?_
        refine lv_icmp_lt (tgt := 71) C.1 C.2.1 dX4_addHolder_58 (by decide) (fun c58 => ?_) (fun c58 => ?_)
        · have hn20 : n < 20 := Nat.lt_of_le_of_ne hn (fun z => by rw [z] at c58; exact absurd c58 (by decide))
          obtain ⟨z6, z7, z8, z9⟩ := hz hn20
          have c99 : ¬ nI n = 20 := fun z => absurd ((nI_eq (b := 20) (by omega) (by decide)).mp z) (by omega)
          refine lv_aload_n C.1 C.2.1 dX4_addHolder_71 rfl (lv_at hl 0 rfl) ?_
          refine hv_get (ci := 5) (Cn := RX4) (T := TX4) (N := 6) (ref := "DividendDesk") (v := .ref (ad 2 0)) C I (isD_0 hD) wX4 rfl 2 (by decide) (by decide +kernel) (fun _ h9 => h9) rfl dX4_addHolder_72 ?_
          refine hv_new (ci := 2) (fs := [.int 0, .int 0, .null, .int 0, .int 0, .int 0]) (Cn := RX1) (T := TX1) (N := 6) C I wX1 tyX1 tyX1_ok (by decide +kernel) (by decide +kernel) (by decide +kernel) rfl (fun j hj => by rcases (show j = 0 ∨ j = 1 ∨ j = 2 ∨ j = 3 ∨ j = 4 ∨ j = 5 by omega) with rfl | rfl | rfl | rfl | rfl | rfl <;> rfl) (Nat.le_of_ble_eq_true rfl) (Nat.le_of_ble_eq_true rfl) dX4_addHolder_75 (fun q_4 H nq_4 I => ?_)
          obtain ⟨h_5, eh_5⟩ : ∃ z, z = hv_up h q_4 (.inr (2, [.int 0, .int 0, .null, .int 0, .int 0, .int 0])) := ⟨_, rfl⟩
          rw [← eh_5] at I
          have fq_4 : h_5 q_4 = some (.inr (2, [.int 0, .int 0, .null, .int 0, .int 0, .int 0])) := by rw [eh_5]; exact hv_up_eq
          refine lv_dup C.1 C.2.1 dX4_addHolder_78 rfl ?_
          refine lv_iload_n C.1 C.2.1 dX4_addHolder_79 rfl (lv_at hl 1 rfl) ?_
          refine lv_iload_n C.1 C.2.1 dX4_addHolder_80 rfl (lv_at hl 2 rfl) ?_
          refine hv_kv I (va_runIN (As := [.int p0, .int p1]) (rest := [.ref q_4, .ref (ad 2 0)]) C.fix (c_X1_init l G h_5 _ fq_4 p0 p1) ⟨va_cnB 2 C.2.2.2.2.1 gX4_addHolder_X1_init_n64 rfl rfl rfl (C.nw (w := .methodLinkNest RX4 64 yX1_init "DividendDesk") (by decide +kernel)) (C.ts (by decide +kernel)) (by decide +kernel) ⟨Nat.le_of_ble_eq_true rfl, Nat.le_of_ble_eq_true rfl⟩, rfl, C.ts (by decide +kernel)⟩ (hv_preS C I) rfl rfl hl.1 rfl (lv_room (Nat.le_of_ble_eq_true rfl)) dX4_addHolder_81 ⟨Nat.le_of_ble_eq_true rfl, Nat.le_of_ble_eq_true rfl⟩) (fun u_6 H locs pu_6 I => ?_)
          obtain ⟨qp, hqp, eu⟩ := pu_6
          have hqq : ¬ qp = q_4 := fun z => by rw [z, fq_4] at hqp; cases hqp
          have hqp : h qp = none := by rw [eh_5, hv_up_ne hqq] at hqp; exact hqp
          have hk : ∀ b e9, h b = some e9 → u_6 b = some e9 := fun b e9 hb => by rw [eu, hv_up_ne (hv_neN hb nq_4), hv_up_ne (hv_neN hb hqp), eh_5, hv_up_ne (hv_neN hb nq_4)]; exact hb
          have uq : u_6 q_4 = some (.inr (2, [.int p0, .int p1, .ref qp, .int 0, .int (-1), .int (-1)])) := by rw [eu]; exact hv_up_eq
          have uqp : u_6 qp = some (.inl (G.2.1 0, 20, .inl (fun _ => 0))) := by rw [eu, hv_up_ne hqq]; exact hv_up_eq
          have k20 := hk _ _ (isD_20 hD)
          refine hv_ki I (va_runV (As := [.ref q_4]) (rest := []) C.fix (c_L_add l G u_6 _ k20 (fun hn0 => hk _ _ (isD_30 hD hn0)) (by omega) uq rfl (by decide +kernel) (by decide) (fun k hk9 => ⟨_, hk _ _ (isD_4 hD hk9)⟩)) (cwV 1 C.2.2.2.2.1 gX4_addHolder_Jx4a65c_add_9ea2d rfl rfl rfl (by decide +kernel) ⟨Nat.le_of_ble_eq_true rfl, Nat.le_of_ble_eq_true rfl⟩) (hv_preV C I k20 (r := (RJx4a65c, TJx4a65c, 3)) rfl) rfl rfl hl.1 rfl (lv_room (Nat.le_of_ble_eq_true rfl)) dX4_addHolder_84 ⟨by show _ ≤ (3 : Nat); have := gC_1 n; omega, by show _ ≤ (75 : Nat); have := gS_49 n; omega⟩) (fun ru_7 u_7 H locs pu_7 I => ?_)
          obtain ⟨e1, t2, ht2, eu2⟩ := pu_7; have e1 := e1.symm; subst e1
          have t2a : ¬ t2 = ad 2 0 := fun z => ht2.elim (fun y => absurd (hD.2 3 0 2 0 (Or.inl ⟨rfl, y.2⟩) (show 0 < 2 by decide) (y.1.symm.trans z)).1 (by decide)) (fun y => by rw [z, k20] at y; cases y)
          have t2q : ¬ t2 = q_4 := fun z => ht2.elim (fun y => hv_neN (isD_30 hD y.2) nq_4 (y.1.symm.trans z)) (fun y => by rw [z, uq] at y; cases y)
          have t2p : ¬ t2 = qp := fun z => ht2.elim (fun y => hv_neN (isD_30 hD y.2) hqp (y.1.symm.trans z)) (fun y => by rw [z, uqp] at y; cases y)
          have t2h : (t2 = ad 3 0 ∧ ¬ n = 0) ∨ (h t2 = none ∧ ¬ t2 = q_4 ∧ ¬ t2 = qp) := ht2.imp id (fun y => ⟨by cases hx : h t2 with | none => rfl | some e9 => (rw [hk _ _ hx] at y; cases y), t2q, t2p⟩)
          have hD : isD G u_7 (adU (adU (adU ad 4 n q_4) 5 n qp) 3 0 t2) (n + 1) d dl dy rf (va_up (va_up ar 4 (upd (ar 4) n p0)) 5 (upd (ar 5) n p1)) fm po := isD_addH hD z6 z7 z8 z9 nq_4 hqp hqq t2h (by rw [eu2, hv_up_ne (hv_neN (isD_20 hD) nq_4).symm, hv_up_ne (Ne.symm t2q)]; exact uq) (by rw [eu2, hv_up_ne (hv_neN (isD_20 hD) hqp).symm, hv_up_ne (Ne.symm t2p)]; exact uqp) (by rw [eu2, hv_up_ne t2a]; exact hv_up_eq) (by rw [eu2]; exact hv_up_eq) (fun b b1 b2 b3 b4 => by rw [eu2, hv_up_ne b4, hv_up_ne b3, eu, hv_up_ne b1, hv_up_ne b2, eh_5, hv_up_ne b1])
          have k00 : u_7 (ad 0 0) = some (.inr (5, [.ref (ad 1 0), .ref (ad 1 1), .ref (ad 2 0), .ref (ad 2 1), .int dy, .long rf])) := by have z := isD_0 hD; exact z
          have k20 : u_7 (ad 2 0) = some (lObj G t2 (n + 1)) := by rw [eu2]; exact hv_up_eq
          refine lv_pop C.1 C.2.1 dX4_addHolder_87 rfl ?_
          refine lv_aload_n C.1 C.2.1 dX4_addHolder_88 rfl (lv_at hl 0 rfl) ?_
          refine hv_get (ci := 5) (Cn := RX4) (T := TX4) (N := 6) (ref := "DividendDesk") (v := .ref (ad 2 0)) C I k00 wX4 rfl 2 (by decide) (by decide +kernel) (fun _ h9 => h9) rfl dX4_addHolder_89 ?_
          refine hv_ki I (va_runV (As := []) (rest := []) C.fix (c_L_size l G u_7 _ k20) (cwV 0 C.2.2.2.2.1 gX4_addHolder_Jx4a65c_size_8abf5 rfl rfl rfl (by decide +kernel) ⟨Nat.le_of_ble_eq_true rfl, Nat.le_of_ble_eq_true rfl⟩) (hv_preV C I k20 (r := (RJx4a65c, TJx4a65c, 3)) rfl) rfl rfl hl.1 rfl (lv_room (Nat.le_of_ble_eq_true rfl)) dX4_addHolder_92 ⟨by have := gC_1 n; show _ ≤ (3 : Nat); omega, by have := gS_49 n; show _ ≤ (75 : Nat); omega⟩) (fun ru_8 u_8 H locs pu_8 I => ?_)
          obtain ⟨e1, e2⟩ := pu_8; have e1 := e1.symm; subst e1; have e2 := e2.symm; subst e2
          refine lv_iconst (v := 1) C.1 C.2.1 dX4_addHolder_95 (by decide) ?_
          refine lv_isub C.1 C.2.1 dX4_addHolder_96 ?_
          refine lv_topi (fun z_9 ez_9 => ?_)
          have ez_9 : z_9 = nI n := by rw [ez_9]; exact nI_pred n
          subst ez_9
          exact vx_ret (hv_iret (v := (nI n)) C hr I (⟨(by unfold fAh; first | (simp [c6, c21, c36, c58, c99]; done) | ((repeat' split) <;> first | rfl | contradiction)), ⟨rfl, adU (adU (adU ad 4 n q_4) 5 n qp) 3 0 t2, rfl, hD⟩⟩) dX4_addHolder_97 (by have := gC_1 n; omega) (by have := gS_49 n; omega))
        · have c99 : nI n = 20 := by rw [show n = 20 from Nat.le_antisymm hn (Nat.le_of_not_lt (fun w => c58 (nI_lt (b := 20) w (by decide))))]; rfl
          exact hv_throw (cls := "java/lang/IllegalStateException") (text := "no more holders") (names := ["java/lang/RuntimeException", "java/lang/Exception"]) (ik := 57) (is := 59) (ic := 61) C ht I hlt hl.1 (by decide +kernel) (by decide +kernel) (by decide +kernel) (by decide +kernel) (by decide +kernel) (by decide +kernel) (by decide +kernel) (by decide +kernel) dX4_addHolder_61 dX4_addHolder_64 dX4_addHolder_65 dX4_addHolder_67 dX4_addHolder_70 (by decide) (by decide) (Nat.le_of_ble_eq_true rfl) (Nat.le_of_ble_eq_true rfl) (⟨rfl, Or.inr (⟨(by unfold fAh; first | (simp [c6, c21, c36, c58, c99]; done) | ((repeat' split) <;> first | rfl | contradiction)), rfl⟩)⟩) (Nat.le_of_ble_eq_true rfl) (Nat.le_of_ble_eq_true rfl)
      · exact hv_throw (cls := "java/lang/IllegalArgumentException") (text := "land does not fit the kind") (names := ["java/lang/RuntimeException", "java/lang/Exception"]) (ik := 42) (is := 51) (ic := 46) C ht I hlt hl.1 (by decide +kernel) (by decide +kernel) (by decide +kernel) (by decide +kernel) (by decide +kernel) (by decide +kernel) (by decide +kernel) (by decide +kernel) dX4_addHolder_39 dX4_addHolder_42 dX4_addHolder_43 dX4_addHolder_45 dX4_addHolder_48 (by decide) (by decide) (Nat.le_of_ble_eq_true rfl) (Nat.le_of_ble_eq_true rfl) (⟨rfl, Or.inl (⟨(by unfold fAh; first | (simp [c6, c21, c36]; done) | ((repeat' split) <;> first | rfl | contradiction)), rfl⟩)⟩) (Nat.le_of_ble_eq_true rfl) (Nat.le_of_ble_eq_true rfl)
    · refine lv_iload_n C.1 C.2.1 dX4_addHolder_24 rfl (lv_at hl 2 rfl) ?_
      refine lv_iconst (v := (-1)) C.1 C.2.1 dX4_addHolder_25 (by decide) ?_
      refine lv_icmp_eq (tgt := 49) C.1 C.2.1 dX4_addHolder_26 (by decide) (fun c26 => ?_) (fun c26 => ?_)
      · refine lv_aload_n C.1 C.2.1 dX4_addHolder_49 rfl (lv_at hl 0 rfl) ?_
        refine hv_get (ci := 5) (Cn := RX4) (T := TX4) (N := 6) (ref := "DividendDesk") (v := .ref (ad 2 0)) C I (isD_0 hD) wX4 rfl 2 (by decide) (by decide +kernel) (fun _ h9 => h9) rfl dX4_addHolder_50 ?_
        refine hv_ki I (va_runV (As := []) (rest := []) C.fix (c_L_size l G h _ (isD_20 hD)) (cwV 0 C.2.2.2.2.1 gX4_addHolder_Jx4a65c_size_8abf5 rfl rfl rfl (by decide +kernel) ⟨Nat.le_of_ble_eq_true rfl, Nat.le_of_ble_eq_true rfl⟩) (hv_preV C I (isD_20 hD) (r := (RJx4a65c, TJx4a65c, 3)) rfl) rfl rfl hl.1 rfl (lv_room (Nat.le_of_ble_eq_true rfl)) dX4_addHolder_53 ⟨Nat.le_of_ble_eq_true rfl, Nat.le_of_ble_eq_true rfl⟩) (fun ru_10 u_10 H locs pu_10 I => ?_)
        obtain ⟨e1, e2⟩ := pu_10; have e1 := e1.symm; subst e1; have e2 := e2.symm; subst e2
        refine lv_bipush (v := 20) C.1 C.2.1 dX4_addHolder_56 (by decide) ?_
        refine lv_icmp_lt (tgt := 71) C.1 C.2.1 dX4_addHolder_58 (by decide) (fun c58 => ?_) (fun c58 => ?_)
        · have hn20 : n < 20 := Nat.lt_of_le_of_ne hn (fun z => by rw [z] at c58; exact absurd c58 (by decide))
          obtain ⟨z6, z7, z8, z9⟩ := hz hn20
          have c99 : ¬ nI n = 20 := fun z => absurd ((nI_eq (b := 20) (by omega) (by decide)).mp z) (by omega)
          refine lv_aload_n C.1 C.2.1 dX4_addHolder_71 rfl (lv_at hl 0 rfl) ?_
          refine hv_get (ci := 5) (Cn := RX4) (T := TX4) (N := 6) (ref := "DividendDesk") (v := .ref (ad 2 0)) C I (isD_0 hD) wX4 rfl 2 (by decide) (by decide +kernel) (fun _ h9 => h9) rfl dX4_addHolder_72 ?_
          refine hv_new (ci := 2) (fs := [.int 0, .int 0, .null, .int 0, .int 0, .int 0]) (Cn := RX1) (T := TX1) (N := 6) C I wX1 tyX1 tyX1_ok (by decide +kernel) (by decide +kernel) (by decide +kernel) rfl (fun j hj => by rcases (show j = 0 ∨ j = 1 ∨ j = 2 ∨ j = 3 ∨ j = 4 ∨ j = 5 by omega) with rfl | rfl | rfl | rfl | rfl | rfl <;> rfl) (Nat.le_of_ble_eq_true rfl) (Nat.le_of_ble_eq_true rfl) dX4_addHolder_75 (fun q_11 H nq_11 I => ?_)
          obtain ⟨h_12, eh_12⟩ : ∃ z, z = hv_up h q_11 (.inr (2, [.int 0, .int 0, .null, .int 0, .int 0, .int 0])) := ⟨_, rfl⟩
          rw [← eh_12] at I
          have fq_11 : h_12 q_11 = some (.inr (2, [.int 0, .int 0, .null, .int 0, .int 0, .int 0])) := by rw [eh_12]; exact hv_up_eq
          refine lv_dup C.1 C.2.1 dX4_addHolder_78 rfl ?_
          refine lv_iload_n C.1 C.2.1 dX4_addHolder_79 rfl (lv_at hl 1 rfl) ?_
          refine lv_iload_n C.1 C.2.1 dX4_addHolder_80 rfl (lv_at hl 2 rfl) ?_
          refine hv_kv I (va_runIN (As := [.int p0, .int p1]) (rest := [.ref q_11, .ref (ad 2 0)]) C.fix (c_X1_init l G h_12 _ fq_11 p0 p1) ⟨va_cnB 2 C.2.2.2.2.1 gX4_addHolder_X1_init_n64 rfl rfl rfl (C.nw (w := .methodLinkNest RX4 64 yX1_init "DividendDesk") (by decide +kernel)) (C.ts (by decide +kernel)) (by decide +kernel) ⟨Nat.le_of_ble_eq_true rfl, Nat.le_of_ble_eq_true rfl⟩, rfl, C.ts (by decide +kernel)⟩ (hv_preS C I) rfl rfl hl.1 rfl (lv_room (Nat.le_of_ble_eq_true rfl)) dX4_addHolder_81 ⟨Nat.le_of_ble_eq_true rfl, Nat.le_of_ble_eq_true rfl⟩) (fun u_13 H locs pu_13 I => ?_)
          obtain ⟨qp, hqp, eu⟩ := pu_13
          have hqq : ¬ qp = q_11 := fun z => by rw [z, fq_11] at hqp; cases hqp
          have hqp : h qp = none := by rw [eh_12, hv_up_ne hqq] at hqp; exact hqp
          have hk : ∀ b e9, h b = some e9 → u_13 b = some e9 := fun b e9 hb => by rw [eu, hv_up_ne (hv_neN hb nq_11), hv_up_ne (hv_neN hb hqp), eh_12, hv_up_ne (hv_neN hb nq_11)]; exact hb
          have uq : u_13 q_11 = some (.inr (2, [.int p0, .int p1, .ref qp, .int 0, .int (-1), .int (-1)])) := by rw [eu]; exact hv_up_eq
          have uqp : u_13 qp = some (.inl (G.2.1 0, 20, .inl (fun _ => 0))) := by rw [eu, hv_up_ne hqq]; exact hv_up_eq
          have k20 := hk _ _ (isD_20 hD)
          refine hv_ki I (va_runV (As := [.ref q_11]) (rest := []) C.fix (c_L_add l G u_13 _ k20 (fun hn0 => hk _ _ (isD_30 hD hn0)) (by omega) uq rfl (by decide +kernel) (by decide) (fun k hk9 => ⟨_, hk _ _ (isD_4 hD hk9)⟩)) (cwV 1 C.2.2.2.2.1 gX4_addHolder_Jx4a65c_add_9ea2d rfl rfl rfl (by decide +kernel) ⟨Nat.le_of_ble_eq_true rfl, Nat.le_of_ble_eq_true rfl⟩) (hv_preV C I k20 (r := (RJx4a65c, TJx4a65c, 3)) rfl) rfl rfl hl.1 rfl (lv_room (Nat.le_of_ble_eq_true rfl)) dX4_addHolder_84 ⟨by show _ ≤ (3 : Nat); have := gC_1 n; omega, by show _ ≤ (75 : Nat); have := gS_49 n; omega⟩) (fun ru_14 u_14 H locs pu_14 I => ?_)
          obtain ⟨e1, t2, ht2, eu2⟩ := pu_14; have e1 := e1.symm; subst e1
          have t2a : ¬ t2 = ad 2 0 := fun z => ht2.elim (fun y => absurd (hD.2 3 0 2 0 (Or.inl ⟨rfl, y.2⟩) (show 0 < 2 by decide) (y.1.symm.trans z)).1 (by decide)) (fun y => by rw [z, k20] at y; cases y)
          have t2q : ¬ t2 = q_11 := fun z => ht2.elim (fun y => hv_neN (isD_30 hD y.2) nq_11 (y.1.symm.trans z)) (fun y => by rw [z, uq] at y; cases y)
          have t2p : ¬ t2 = qp := fun z => ht2.elim (fun y => hv_neN (isD_30 hD y.2) hqp (y.1.symm.trans z)) (fun y => by rw [z, uqp] at y; cases y)
          have t2h : (t2 = ad 3 0 ∧ ¬ n = 0) ∨ (h t2 = none ∧ ¬ t2 = q_11 ∧ ¬ t2 = qp) := ht2.imp id (fun y => ⟨by cases hx : h t2 with | none => rfl | some e9 => (rw [hk _ _ hx] at y; cases y), t2q, t2p⟩)
          have hD : isD G u_14 (adU (adU (adU ad 4 n q_11) 5 n qp) 3 0 t2) (n + 1) d dl dy rf (va_up (va_up ar 4 (upd (ar 4) n p0)) 5 (upd (ar 5) n p1)) fm po := isD_addH hD z6 z7 z8 z9 nq_11 hqp hqq t2h (by rw [eu2, hv_up_ne (hv_neN (isD_20 hD) nq_11).symm, hv_up_ne (Ne.symm t2q)]; exact uq) (by rw [eu2, hv_up_ne (hv_neN (isD_20 hD) hqp).symm, hv_up_ne (Ne.symm t2p)]; exact uqp) (by rw [eu2, hv_up_ne t2a]; exact hv_up_eq) (by rw [eu2]; exact hv_up_eq) (fun b b1 b2 b3 b4 => by rw [eu2, hv_up_ne b4, hv_up_ne b3, eu, hv_up_ne b1, hv_up_ne b2, eh_12, hv_up_ne b1])
          have k00 : u_14 (ad 0 0) = some (.inr (5, [.ref (ad 1 0), .ref (ad 1 1), .ref (ad 2 0), .ref (ad 2 1), .int dy, .long rf])) := by have z := isD_0 hD; exact z
          have k20 : u_14 (ad 2 0) = some (lObj G t2 (n + 1)) := by rw [eu2]; exact hv_up_eq
          refine lv_pop C.1 C.2.1 dX4_addHolder_87 rfl ?_
          refine lv_aload_n C.1 C.2.1 dX4_addHolder_88 rfl (lv_at hl 0 rfl) ?_
          refine hv_get (ci := 5) (Cn := RX4) (T := TX4) (N := 6) (ref := "DividendDesk") (v := .ref (ad 2 0)) C I k00 wX4 rfl 2 (by decide) (by decide +kernel) (fun _ h9 => h9) rfl dX4_addHolder_89 ?_
          refine hv_ki I (va_runV (As := []) (rest := []) C.fix (c_L_size l G u_14 _ k20) (cwV 0 C.2.2.2.2.1 gX4_addHolder_Jx4a65c_size_8abf5 rfl rfl rfl (by decide +kernel) ⟨Nat.le_of_ble_eq_true rfl, Nat.le_of_ble_eq_true rfl⟩) (hv_preV C I k20 (r := (RJx4a65c, TJx4a65c, 3)) rfl) rfl rfl hl.1 rfl (lv_room (Nat.le_of_ble_eq_true rfl)) dX4_addHolder_92 ⟨by have := gC_1 n; show _ ≤ (3 : Nat); omega, by have := gS_49 n; show _ ≤ (75 : Nat); omega⟩) (fun ru_15 u_15 H locs pu_15 I => ?_)
          obtain ⟨e1, e2⟩ := pu_15; have e1 := e1.symm; subst e1; have e2 := e2.symm; subst e2
          refine lv_iconst (v := 1) C.1 C.2.1 dX4_addHolder_95 (by decide) ?_
          refine lv_isub C.1 C.2.1 dX4_addHolder_96 ?_
          refine lv_topi (fun z_16 ez_16 => ?_)
          have ez_16 : z_16 = nI n := by rw [ez_16]; exact nI_pred n
          subst ez_16
          exact vx_ret (hv_iret (v := (nI n)) C hr I (⟨(by unfold fAh; first | (simp [c6, c21, c26, c58, c99]; done) | ((repeat' split) <;> first | rfl | contradiction)), ⟨rfl, adU (adU (adU ad 4 n q_11) 5 n qp) 3 0 t2, rfl, hD⟩⟩) dX4_addHolder_97 (by have := gC_1 n; omega) (by have := gS_49 n; omega))
        · have c99 : nI n = 20 := by rw [show n = 20 from Nat.le_antisymm hn (Nat.le_of_not_lt (fun w => c58 (nI_lt (b := 20) w (by decide))))]; rfl
          exact hv_throw (cls := "java/lang/IllegalStateException") (text := "no more holders") (names := ["java/lang/RuntimeException", "java/lang/Exception"]) (ik := 57) (is := 59) (ic := 61) C ht I hlt hl.1 (by decide +kernel) (by decide +kernel) (by decide +kernel) (by decide +kernel) (by decide +kernel) (by decide +kernel) (by decide +kernel) (by decide +kernel) dX4_addHolder_61 dX4_addHolder_64 dX4_addHolder_65 dX4_addHolder_67 dX4_addHolder_70 (by decide) (by decide) (Nat.le_of_ble_eq_true rfl) (Nat.le_of_ble_eq_true rfl) (⟨rfl, Or.inr (⟨(by unfold fAh; first | (simp [c6, c21, c26, c58, c99]; done) | ((repeat' split) <;> first | rfl | contradiction)), rfl⟩)⟩) (Nat.le_of_ble_eq_true rfl) (Nat.le_of_ble_eq_true rfl)
      · refine lv_goto (tgt := 39) C.1 C.2.1 dX4_addHolder_29 (by decide) ?_
        exact hv_throw (cls := "java/lang/IllegalArgumentException") (text := "land does not fit the kind") (names := ["java/lang/RuntimeException", "java/lang/Exception"]) (ik := 42) (is := 51) (ic := 46) C ht I hlt hl.1 (by decide +kernel) (by decide +kernel) (by decide +kernel) (by decide +kernel) (by decide +kernel) (by decide +kernel) (by decide +kernel) (by decide +kernel) dX4_addHolder_39 dX4_addHolder_42 dX4_addHolder_43 dX4_addHolder_45 dX4_addHolder_48 (by decide) (by decide) (Nat.le_of_ble_eq_true rfl) (Nat.le_of_ble_eq_true rfl) (⟨rfl, Or.inl (⟨(by unfold fAh; first | (simp [c6, c21, c26]; done) | ((repeat' split) <;> first | rfl | contradiction)), rfl⟩)⟩) (Nat.le_of_ble_eq_true rfl) (Nat.le_of_ble_eq_true rfl)
  · exact hv_throw (cls := "java/lang/IllegalArgumentException") (text := "no such kind") (names := ["java/lang/RuntimeException", "java/lang/Exception"]) (ik := 42) (is := 49) (ic := 46) C ht I hlt hl.1 (by decide +kernel) (by decide +kernel) (by decide +kernel) (by decide +kernel) (by decide +kernel) (by decide +kernel) (by decide +kernel) (by decide +kernel) dX4_addHolder_9 dX4_addHolder_12 dX4_addHolder_13 dX4_addHolder_15 dX4_addHolder_18 (by decide) (by decide) (Nat.le_of_ble_eq_true rfl) (Nat.le_of_ble_eq_true rfl) (⟨rfl, Or.inl (⟨(by unfold fAh; first | (simp [c6]; done) | ((repeat' split) <;> first | rfl | contradiction)), rfl⟩)⟩) (Nat.le_of_ble_eq_true rfl) (Nat.le_of_ble_eq_true rfl)
