/-! ===== the desk's reads, as the law uses them ===== -/
theorem fAk_0 {j n : Nat} (hj : j < n) (hn : n ≤ 20) : fAk (nI j) n = 0 := if_neg (iw_in hj (by omega))
theorem fAa_0 {D j n d : Nat} (hD : D < d) (hd : d ≤ 40) (hj : j < n) (hn : n ≤ 20) : fAa (nI D) (nI j) n d = 0 := by
  unfold fAa
  rw [if_neg (iw_in hD (by omega)), if_neg (iw_in hj (by omega))]
theorem one_ne : ¬ (0 : Int32) = 1 := by decide
theorem two_ne : ¬ (0 : Int32) = 2 := by decide
theorem three_ne : ¬ (0 : Int32) = 3 := by decide
theorem k_shares (l : Launch) (hlt : l.stackTraces = false) (G : hv_G) (h : hv) (sz : Nat) {ad : Nat → Nat → Nat} {n d dl : Nat} {dy : Int32} {rf : Int64} {ar : AR} {fm : Nat → Int32} {po : PO} (hD : isD G h ad n d dl dy rf ar fm po) {j : Nat} (hn : n ≤ 20) (hj : j < n) {v : Int32} (ev : ar 6 j = v) : hv_Mi l yX4_shares wsX4_shares 8 200 2 12 G h sz [.ref (ad 0 0), .int (nI j)] (fun r u => u = h ∧ r = v) := by
  have hf0 := fAk_0 hj hn
  refine hv_m0i (c_X4_shares l hlt G h sz hD (nI j) hn) (fun r u z => ⟨z.2.1, ?_⟩) (fun E u z => ?_)
  · rw [z.2.2, nI_clamp (by omega)]
    exact ev
  · rcases z with ⟨_, z, _⟩
    exact one_ne (hf0.symm.trans z)
theorem k_isValid (l : Launch) (hlt : l.stackTraces = false) (G : hv_G) (h : hv) (sz : Nat) {ad : Nat → Nat → Nat} {n d dl : Nat} {dy : Int32} {rf : Int64} {ar : AR} {fm : Nat → Int32} {po : PO} (hD : isD G h ad n d dl dy rf ar fm po) {j : Nat} (hn : n ≤ 20) (hj : j < n) {v : Int32} (ev : hf dy (ar 7 j) = v) : hv_Mi l yX4_isValid wsX4_isValid 8 200 2 12 G h sz [.ref (ad 0 0), .int (nI j)] (fun r u => u = h ∧ r = v) := by
  have hf0 := fAk_0 hj hn
  refine hv_m0i (c_X4_isValid l hlt G h sz hD (nI j) hn) (fun r u z => ⟨z.2.1, ?_⟩) (fun E u z => ?_)
  · rw [z.2.2, nI_clamp (by omega)]
    exact ev
  · rcases z with ⟨_, z, _⟩
    exact one_ne (hf0.symm.trans z)
theorem k_isLarge (l : Launch) (hlt : l.stackTraces = false) (G : hv_G) (h : hv) (sz : Nat) {ad : Nat → Nat → Nat} {n d dl : Nat} {dy : Int32} {rf : Int64} {ar : AR} {fm : Nat → Int32} {po : PO} (hD : isD G h ad n d dl dy rf ar fm po) {j : Nat} (hn : n ≤ 20) (hj : j < n) {v : Int32} (ev : hlg (ar 4 j) (ar 6 j) (ar 8 j) dy = v) : hv_Mi l yX4_isLarge wsX4_isLarge 8 200 2 12 G h sz [.ref (ad 0 0), .int (nI j)] (fun r u => u = h ∧ r = v) := by
  have hf0 := fAk_0 hj hn
  refine hv_m0i (c_X4_isLarge l hlt G h sz hD (nI j) hn) (fun r u z => ⟨z.2.1, ?_⟩) (fun E u z => ?_)
  · rw [z.2.2, nI_clamp (by omega)]
    exact ev
  · rcases z with ⟨_, z, _⟩
    exact one_ne (hf0.symm.trans z)
theorem k_treatyRate (l : Launch) (hlt : l.stackTraces = false) (G : hv_G) (h : hv) (sz : Nat) {ad : Nat → Nat → Nat} {n d dl : Nat} {dy : Int32} {rf : Int64} {ar : AR} {fm : Nat → Int32} {po : PO} (hD : isD G h ad n d dl dy rf ar fm po) {j : Nat} (hn : n ≤ 20) (hj : j < n) (h2 : ¬ ar 4 j = 2) {v : Int32} (ev : ownF (rD (ar 1) (ar 5 j)) (rD (ar 2) (ar 5 j)) (hlg (ar 4 j) (ar 6 j) (ar 8 j) dy) = v) : hv_Mi l yX4_treatyRate wsX4_treatyRate 8 200 2 12 G h sz [.ref (ad 0 0), .int (nI j)] (fun r u => u = h ∧ r = v) := by
  have hf0 : fRt (nI j) n (ar 4) = 0 := by
    unfold fRt
    rw [if_neg (iw_in hj (by omega)), nI_clamp (by omega), if_neg h2]
  refine hv_m0i (c_X4_treatyRate l hlt G h sz hD (nI j) hn) (fun r u z => ⟨z.2.1, ?_⟩) (fun E u z => ?_)
  · rw [z.2.2, nI_clamp (by omega)]
    exact ev
  · rcases z with ⟨_, ⟨z, _⟩ | ⟨z, _⟩⟩
    · exact one_ne (hf0.symm.trans z)
    · exact two_ne (hf0.symm.trans z)
theorem k_gross (l : Launch) (hlt : l.stackTraces = false) (G : hv_G) (h : hv) (sz : Nat) {ad : Nat → Nat → Nat} {n d dl : Nat} {dy : Int32} {rf : Int64} {ar : AR} {fm : Nat → Int32} {po : PO} (hD : isD G h ad n d dl dy rf ar fm po) {D j : Nat} (hn : n ≤ 20) (hdl : dl ≤ d) (hd : d ≤ 40) (hpo : ∀ m, (po m).length ≤ 32) (hDl : D < dl) (hj : j < n) {v : Int32} (ev : ar 12 (20 * D + j) = v) : hv_Mi l yX4_gross wsX4_gross 10 300 2 12 G h sz [.ref (ad 0 0), .int (nI D), .int (nI j)] (fun r u => u = h ∧ r = v) := by
  have hf0 := fAa_0 hDl (Nat.le_trans hdl hd) hj hn
  refine hv_m0i (c_X4_gross l hlt G h sz hD (nI D) (nI j) hn hdl hd (fun m _ => hpo m)) (fun r u z => ⟨z.2.1, ?_⟩) (fun E u z => ?_)
  · rw [z.2.2, nI_clamp (by omega), nI_clamp (by omega)]
    exact ev
  · rcases z with ⟨_, z, _⟩
    exact one_ne (hf0.symm.trans z)
theorem k_held (l : Launch) (hlt : l.stackTraces = false) (G : hv_G) (h : hv) (sz : Nat) {ad : Nat → Nat → Nat} {n d dl : Nat} {dy : Int32} {rf : Int64} {ar : AR} {fm : Nat → Int32} {po : PO} (hD : isD G h ad n d dl dy rf ar fm po) {D j : Nat} (hn : n ≤ 20) (hdl : dl ≤ d) (hd : d ≤ 40) (hpo : ∀ m, (po m).length ≤ 32) (hDl : D < dl) (hj : j < n) {v : Int32} (ev : (if ar 12 (20 * D + j) = 0 then 0 else ar 13 (20 * D + j)) = v) : hv_Mi l yX4_held wsX4_held 10 300 2 12 G h sz [.ref (ad 0 0), .int (nI D), .int (nI j)] (fun r u => u = h ∧ r = v) := by
  have hf0 := fAa_0 hDl (Nat.le_trans hdl hd) hj hn
  refine hv_m0i (c_X4_held l hlt G h sz hD (nI D) (nI j) hn hdl hd (fun m _ => hpo m)) (fun r u z => ⟨z.2.1, ?_⟩) (fun E u z => ?_)
  · rw [z.2.2, nI_clamp (by omega), nI_clamp (by omega)]
    exact ev
  · rcases z with ⟨_, z, _⟩
    exact one_ne (hf0.symm.trans z)
theorem k_due (l : Launch) (hlt : l.stackTraces = false) (G : hv_G) (h : hv) (sz : Nat) {ad : Nat → Nat → Nat} {n d dl : Nat} {dy : Int32} {rf : Int64} {ar : AR} {fm : Nat → Int32} {po : PO} (hD : isD G h ad n d dl dy rf ar fm po) {D j : Nat} (hn : n ≤ 20) (hdl : dl ≤ d) (hd : d ≤ 40) (hpo : ∀ m, (po m).length ≤ 32) (hDl : D < dl) (hj : j < n) {v : Int32} (ev : (if ar 12 (20 * D + j) = 0 then 0 else tall (po (20 * D + j)) (-1)) = v) : hv_Mi l yX4_due wsX4_due 10 300 2 12 G h sz [.ref (ad 0 0), .int (nI D), .int (nI j)] (fun r u => u = h ∧ r = v) := by
  have hf0 := fAa_0 hDl (Nat.le_trans hdl hd) hj hn
  refine hv_m0i (c_X4_due l hlt G h sz hD (nI D) (nI j) hn hdl hd (fun m _ => hpo m)) (fun r u z => ⟨z.2.1, ?_⟩) (fun E u z => ?_)
  · rw [z.2.2, nI_clamp (by omega), nI_clamp (by omega)]
    exact ev
  · rcases z with ⟨_, z, _⟩
    exact one_ne (hf0.symm.trans z)
theorem bI_0 {b : Bool} (h : ¬ b = true) : (0 : Int32) = bI b := (if_neg h).symm
theorem bI_1 {b : Bool} (h : b = true) : (1 : Int32) = bI b := (if_pos h).symm
theorem bI_e {b : Bool} : bI b = 0 ↔ ¬ b = true := by
  constructor
  · intro z c
    rw [show bI b = 1 from if_pos c] at z
    exact absurd z (by decide)
  · intro c
    exact if_neg c
section HLN
variable {p : Program} {l : Launch} {e : Env} {R : Room} {s : State} {m : MethodId} {args : Array Value} {below : List Frame} {meth : Method} {c : Code} {H : Heap} {locs : List Loc} {cells slots : Nat} {Q : State → Prop}
variable {cc : ByteArray} {pc : Nat} {ls : Array Slot} {rest : List Value} {a : Nat} {G : hv_G} {h h0 : hv} {own : String} {nL : Nat} {Ts : List Cond}
theorem hv_laldN (C : hv_C p s m args meth c own cc nL Ts G h0) (I : hv_I G h0 s h H locs) {n : Nat} {f : Nat → Int64} (ha : h a = some (.inl (G.2.1 4, n, .inr (.inl f)))) {i : Nat} (hi : i < n) (hn : n < 2 ^ 31) (hdg : decode cc pc = .ok (.laload, 1))
    (kk : W p l e R s m args below meth c H locs cells slots Q (F0 m (pc + 1) ls (.long (f i) :: rest))) : W p l e R s m args below meth c H locs cells slots Q (F0 m pc ls (.int (nI i) :: .ref a :: rest)) :=
  hv_lald C I ha (vp_in_nI hi hn) hdg (by rw [nI_clamp (by omega)]; exact kk)
theorem hv_lastN (C : hv_C p s m args meth c own cc nL Ts G h0) (I : hv_I G h0 s h H locs) {n : Nat} {f : Nat → Int64} (ha : h a = some (.inl (G.2.1 4, n, .inr (.inl f)))) {i : Nat} {x : Int64} (hi : i < n) (hn : n < 2 ^ 31) (hdg : decode cc pc = .ok (.lastore, 1))
    (kk : ∀ (H1 : Heap) (locs1 : List Loc), hv_I G h0 s (hv_up h a (.inl (G.2.1 4, n, .inr (.inl (vp_updL f i x))))) H1 locs1 → W p l e R s m args below meth c H1 locs1 cells slots Q (F0 m (pc + 1) ls rest)) : W p l e R s m args below meth c H locs cells slots Q (F0 m pc ls (.long x :: .int (nI i) :: .ref a :: rest)) :=
  hv_last C I ha (vp_in_nI hi hn) hdg (by rw [nI_clamp (by omega)]; exact kk)
end HLN
theorem lcmp_eq {x y : Int64} (h : x = y) : lg_cmp x y = 0 := by rw [h]; unfold lg_cmp; simp
theorem lcmp_N {a b : Nat} (ha : a < 2 ^ 63) (hb : b < 2 ^ 63) : (0 < lg_cmp (lN a) (lN b) ↔ b < a) ∧ (0 ≤ lg_cmp (lN a) (lN b) ↔ b ≤ a) ∧ (lg_cmp (lN a) (lN b) = 0 ↔ a = b) := by
  unfold lg_cmp
  by_cases c : b < a
  · rw [if_pos ((pk_lLT hb ha).mpr c)]
    exact ⟨⟨fun _ => c, fun _ => by decide⟩, ⟨fun _ => by omega, fun _ => by decide⟩, ⟨fun z => absurd z (by decide), fun z => by omega⟩⟩
  · rw [if_neg (fun z => c ((pk_lLT hb ha).mp z))]
    by_cases c2 : a = b
    · rw [if_pos ((pk_lEQ ha hb).mpr c2)]
      exact ⟨⟨fun z => absurd z (by decide), fun z => absurd z c⟩, ⟨fun _ => by omega, fun _ => by decide⟩, ⟨fun _ => c2, fun _ => rfl⟩⟩
    · rw [if_neg (fun z => c2 ((pk_lEQ ha hb).mp z))]
      exact ⟨⟨fun z => absurd z (by decide), fun z => absurd z c⟩, ⟨fun z => absurd z (by decide), fun z => by omega⟩, ⟨fun z => absurd z (by decide), fun z => absurd z c2⟩⟩
theorem Nm.at {n d t : Nat} {ar : AR} {po : PO} {rf : Int64} {hF : Nat → Int64} {tF pF cF : Nat → Int32} {zF : Nat → Int64} {kd ld sh fo si g la : Nat → Nat} (h : Nm n d t ar po rf hF tF pF cF zF kd ld sh fo si g la) {D j : Nat} (hD : D < d) (hj : j < n) : ∃ H D2 A : Nat, (if ar 12 (20 * D + j) = 0 then 0 else ar 13 (20 * D + j)) = nI H ∧ (if ar 12 (20 * D + j) = 0 then 0 else tall (po (20 * D + j)) (-1)) = nI D2 ∧ ar 12 (20 * D + j) = nI A ∧ A ≤ 1000000000 ∧ D2 ≤ H ∧ H ≤ A * 30 / 100 := by
  have hn := h.1.1
  by_cases c : ar 12 (20 * D + j) = 0
  · rw [if_pos c, if_pos c]
    exact ⟨0, 0, 0, rfl, rfl, c, by decide, Nat.le_refl _, Nat.zero_le _⟩
  · rw [if_neg c, if_neg c]
    obtain ⟨_, A, H, D2, a1, a2, a3, a4, _, a6, a7, a8, _⟩ := h.py hD (by omega) c
    exact ⟨H, D2, A, a4, a6, a3, a2, a7, a8⟩
