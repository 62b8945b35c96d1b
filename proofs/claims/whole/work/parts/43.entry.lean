/-! ===== the law, from its entry ===== -/
theorem ws_le1 {u : hv} {q : Nat} {e9 : va_E} : hv_le (hv_up h_0 q e9) (hv_up u q e9) := fun y e hy => by
  by_cases cy : y = q
  · rw [cy, hv_up_eq] at hy ⊢
    exact hy
  · rw [hv_up_ne cy] at hy
    cases hy
theorem ws_le2 {u : hv} {q : Nat} {e9 : va_E} (h : u q = none) : hv_le u (hv_up u q e9) := fun y e hy => by
  rw [hv_up_ne (fun z => by rw [z, h] at hy; cases hy)]
  exact hy
theorem ws_dis {u : hv} {q : Nat} {e9 : va_E} (h : u q = none) : hv_dis (hv_up h_0 q e9) u := fun y hy => by
  by_cases cy : y = q
  · rw [cy]
    exact h
  · rw [hv_up_ne cy] at hy
    exact absurd rfl hy
theorem ws_I {G : hv_G} {s : State} {x o oa : Nat} {md : Nat → Nat} {H : Heap} {locs : List Loc} {J hX hM : hv} (hq : J oa = none) (I : hv_I G h_0 s (hv_up J oa (.inl (G.2.1 4, 1, .inr (.inl (fun _ => 0))))) H locs) (leX : hv_le hX J) (leM : hv_le hM J) (d : hv_dis hM hX) (LS : LSt G x o md hX hM 0) : lw_I G s x o oa md H locs := by
  have ez : (fun k : Nat => if k = 0 then (0 : Int64) else 0) = fun _ => 0 := by
    funext k
    split <;> rfl
  have eo : hv_out G oa 0 oa = some (.inl (G.2.1 4, 1, .inr (.inl (fun _ => 0)))) := by rw [hv_out_eq, ez]
  have en : ∀ y, ¬ y = oa → hv_out G oa 0 y = none := fun y hy => if_neg hy
  have nX : hX oa = none := by
    cases h : hX oa with
    | none => rfl
    | some e => rw [leX oa e h] at hq; cases hq
  have nM : hM oa = none := by
    cases h : hM oa with
    | none => rfl
    | some e => rw [leM oa e h] at hq; cases hq
  refine ⟨_, hX, hM, 0, 0, I, fun y e hy => ?_, fun y e hy => ws_le2 hq y e (leM y e hy), fun y hy => ?_, fun y hy => en y (fun z => hy (by rw [z]; exact nX)), LS⟩
  · cases h : hX y with
    | some e2 =>
      rw [hv_j_l h] at hy
      exact ws_le2 hq y e (leX y e (by rw [h]; exact hy))
    | none =>
      rw [hv_j_r h] at hy
      by_cases cy : y = oa
      · rw [cy, eo] at hy
        rw [cy, hv_up_eq]
        exact hy
      · rw [en y cy] at hy
        cases hy
  · by_cases cy : y = oa
    · rw [cy]
      exact nM
    · cases h : hM y with
      | none => rfl
      | some e =>
        have h2 := d y (hv_nn h)
        rw [hv_j_r h2, en y cy] at hy
        exact absurd rfl hy
set_option maxHeartbeats 4000000 in
set_option maxRecDepth 100000 in
/-- YOUR PART: from the entry, for every script of at most 2048 ints, the law comes to its end with true ('hflags': the launch's flags, for a law that throws: no stack traces) -/
theorem whole_start {p : Program} {e : Env} {s : State} {m : MethodId} {below : List Frame} {meth : Method} {c : Code} (l : Launch) (hflags : l.flags = flags0) {b L : Nat} {xs : Nat → Int32} (hL : L ≤ 2048) (C0 : lw_At p s m meth c b L xs) : W p l e room_1 s m #[Value.ref b] below meth c s.heap [] 0 0 (lw_Z below #[Value.ref b] s) (entryFrame m ([Value.ref b] : List Value).toArray 7) := by
  obtain ⟨hx, hb, hr, hml, hown, hts, hX, hbl, hlocks, hgv⟩ := id C0
  have hlt : l.stackTraces = false := by
    unfold Launch.stackTraces
    rw [hflags]
    decide
  obtain ⟨G, hE⟩ := st_E hts hgv
  have C : hv_C p s m #[Value.ref b] meth c RL cL_law 7 wsL_law G h_0 := ⟨hx, hb, hml, hown, fun w hw => hts w (wsL_law_in w hw), hlocks, hE⟩
  have S : lw_S p s m meth c b L xs G := ⟨C, hr, hX, hbl⟩
  have I : hv_I G h_0 s h_0 s.heap [] := ⟨fun a e h => absurd h (fun z : (none : Option va_E) = some e => by cases z), fun a h => absurd rfl h, va_S.rf⟩
  have hl := lv_entry ([.ref b]) (n := 7) (Nat.le_of_ble_eq_true rfl)
  rw [lg_entry_eq]
  generalize (lg_sl ([.ref b]) ++ List.replicate (7 - (lg_sl ([.ref b])).length) Slot.unset).toArray = ls at hl ⊢
  have hl : lv_has ls 7 [(0, .ref b)] := hl
  refine hv_new (ci := 5) (fs := [.null, .null, .null, .null, .int 0, .long 0]) (Cn := RX4) (T := TX4) (N := 6) C I inlX4 tyX4 tyX4_ok (by decide +kernel) (by decide +kernel) (by decide +kernel) rfl (fun j hj => by rcases (show j = 0 ∨ j = 1 ∨ j = 2 ∨ j = 3 ∨ j = 4 ∨ j = 5 by omega) with rfl | rfl | rfl | rfl | rfl | rfl <;> rfl) (Nat.le_of_ble_eq_true rfl) (Nat.le_of_ble_eq_true rfl) dL_law_0 (fun q H e1 I => ?_)
  refine lv_dup hx hb dL_law_3 rfl ?_
  refine hv_kv I (va_runI (As := []) (rest := [.ref q]) C.fix (c_X4_init l G _ _ hv_up_eq) (cwI 0 C.2.2.2.2.1 gL_law_X4_init rfl rfl rfl (C.ts (by decide +kernel)) (C.ts (w := .methodLink RL 67 yX4_init) (by decide +kernel)) (C.ts (by decide +kernel)) rfl (by decide +kernel) ⟨Nat.le_of_ble_eq_true rfl, Nat.le_of_ble_eq_true rfl⟩) (hv_preS C I) rfl rfl hl.1 rfl (lv_room (Nat.le_of_ble_eq_true rfl)) dL_law_4 ⟨Nat.le_of_ble_eq_true rfl, Nat.le_of_ble_eq_true rfl⟩) (fun u H locs hp I => ?_)
  obtain ⟨ad, ea, hD⟩ := hp
  refine lv_astore_n (lv' := [(1, .ref q), (0, .ref b)]) hx hb dL_law_7 rfl hl (by decide) rfl (fun ls hl => ?_)
  refine hv_new (ci := 6) (fs := blk6) (Cn := RX5) (T := TX5) (N := 21) C I inlX5 tyX5 tyX5_ok (by decide +kernel) (by decide +kernel) (by decide +kernel) rfl (fun j hj => by rcases (show j = 0 ∨ j = 1 ∨ j = 2 ∨ j = 3 ∨ j = 4 ∨ j = 5 ∨ j = 6 ∨ j = 7 ∨ j = 8 ∨ j = 9 ∨ j = 10 ∨ j = 11 ∨ j = 12 ∨ j = 13 ∨ j = 14 ∨ j = 15 ∨ j = 16 ∨ j = 17 ∨ j = 18 ∨ j = 19 ∨ j = 20 by omega) with rfl | rfl | rfl | rfl | rfl | rfl | rfl | rfl | rfl | rfl | rfl | rfl | rfl | rfl | rfl | rfl | rfl | rfl | rfl | rfl | rfl <;> rfl) (Nat.le_of_ble_eq_true rfl) (Nat.le_of_ble_eq_true rfl) dL_law_8 (fun q2 H e2 I => ?_)
  refine lv_dup hx hb dL_law_11 rfl ?_
  refine hv_skv I ws_le1 (va_runI (As := []) (rest := [.ref q2]) C.fix (c_X5_init l G _ _ hv_up_eq) (cwI 0 C.2.2.2.2.1 gL_law_X5_init rfl rfl rfl (C.ts (by decide +kernel)) (C.ts (w := .methodLink RL 70 yX5_init) (by decide +kernel)) (C.ts (by decide +kernel)) rfl (by decide +kernel) ⟨Nat.le_of_ble_eq_true rfl, Nat.le_of_ble_eq_true rfl⟩) (hv_preS C (I.sub ws_le1)) rfl rfl hl.1 rfl (lv_room (Nat.le_of_ble_eq_true rfl)) dL_law_12 ⟨Nat.le_of_ble_eq_true rfl, Nat.le_of_ble_eq_true rfl⟩) (fun uM J2 H locs hp hf I => ?_)
  obtain ⟨md, hM⟩ := hp
  obtain ⟨leM, fr⟩ := hf
  obtain ⟨leX, dMX⟩ := fr u (ws_le2 e2) (ws_dis e2)
  refine lv_astore_n (lv' := [(2, .ref q2), (1, .ref q), (0, .ref b)]) hx hb dL_law_15 rfl hl (by decide) rfl (fun ls hl => ?_)
  refine lv_iconst (v := 1) hx hb dL_law_16 (by decide) ?_
  refine hv_newL C I (by decide +kernel) (N := 1) (by decide) (by decide) (Nat.le_of_ble_eq_true rfl) (Nat.le_of_ble_eq_true rfl) (Nat.le_of_ble_eq_true rfl) dL_law_17 (fun q3 H e3 I => ?_)
  refine lv_astore_n (lv' := [(3, .ref q3), (2, .ref q2), (1, .ref q), (0, .ref b)]) hx hb dL_law_19 rfl hl (by decide) rfl (fun ls hl => ?_)
  refine lv_iconst (v := nI 0) hx hb dL_law_20 (by decide) ?_
  refine lv_istore (lv' := [(4, .int (nI 0)), (3, .ref q3), (2, .ref q2), (1, .ref q), (0, .ref b)]) hx hb dL_law_21 hl (by decide) rfl (fun ls hl => ?_)
  exact lw_loop hlt S hL 513 0 (Nat.zero_le L) (by omega) H locs _ _ (by omega) (by omega) (ws_I e3 I leX leM dMX (LSt_init ea hD hM)) ls (lv_sub hl [4, 3, 2, 1, 0] rfl)
