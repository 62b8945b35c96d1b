/-! ===== the desk's reads, as the law uses them ===== -/
theorem fAk_0 {j n : Nat} (hj : j < n) (hn : n ≤ 20) : fAk (nI j) n = 0 := if_neg (iw_in hj (by omega))
theorem fAa_0 {D j n d : Nat} (hD : D < d) (hd : d ≤ 40) (hj : j < n) (hn : n ≤ 20) : fAa (nI D) (nI j) n d = 0 := by
  unfold fAa
  rw [if_neg (iw_in hD (by omega)), if_neg (iw_in hj (by omega))]
theorem one_ne : ¬ (0 : Int32) = 1 := by decide
theorem two_ne : ¬ (0 : Int32) = 2 := by decide
theorem three_ne : ¬ (0 : Int32) = 3 := by decide
theorem k_shares (l : Launch) (hlt : l.stackTraces = false) (G : hv_G) (h : hv) (sz : Nat) {ad : Nat → Nat → Nat} {n d dl : Nat} {dy : Int32} {rf : Int64} {ar : AR} {fm : Nat → Int32} {po : PO} (hD : isD G h ad n d dl dy rf ar fm po) {j : Nat} (hn : n ≤ 20) (hj : j < n) {v : Int32} (ev : ar 6 j = v) : hv_Mi l yX4_shares wsX4_shares 8 200 2 12 G h sz [.ref (ad 0 0), .int (nI j)] (fun r u => u = h ∧ r = v) := by
  have hf0 := fAk_0 hj hn
  refine hv_m0i (c_X4_shares l hlt G h sz hD (nI j) hn) (fun r u z => ⟨z.2.1, ?_⟩) (fun E u z => ?_)
  · rw [z.2.2, nI_clamp (by omega)]
    exact ev
  · rcases z with ⟨_, z, _⟩
    exact one_ne (hf0.symm.trans z)
theorem k_isValid (l : Launch) (hlt : l.stackTraces = false) (G : hv_G) (h : hv) (sz : Nat) {ad : Nat → Nat → Nat} {n d dl : Nat} {dy : Int32} {rf : Int64} {ar : AR} {fm : Nat → Int32} {po : PO} (hD : isD G h ad n d dl dy rf ar fm po) {j : Nat} (hn : n ≤ 20) (hj : j < n) {v : Int32} (ev : hf dy (ar 7 j) = v) : hv_Mi l yX4_isValid wsX4_isValid 8 200 2 12 G h sz [.ref (ad 0 0), .int (nI j)] (fun r u => u = h ∧ r = v) := by
  have hf0 := fAk_0 hj hn
  refine hv_m0i (c_X4_isValid l hlt G h sz hD (nI j) hn) (fun r u z => ⟨z.2.1, ?_⟩) (fun E u z => ?_)
  · rw [z.2.2, nI_clamp (by omega)]
    exact ev
  · rcases z with ⟨_, z, _⟩
    exact one_ne (hf0.symm.trans z)
theorem k_isLarge (l : Launch) (hlt : l.stackTraces = false) (G : hv_G) (h : hv) (sz : Nat) {ad : Nat → Nat → Nat} {n d dl : Nat} {dy : Int32} {rf : Int64} {ar : AR} {fm : Nat → Int32} {po : PO} (hD : isD G h ad n d dl dy rf ar fm po) {j : Nat} (hn : n ≤ 20) (hj : j < n) {v : Int32} (ev : hlg (ar 4 j) (ar 6 j) (ar 8 j) dy = v) : hv_Mi l yX4_isLarge wsX4_isLarge 8 200 2 12 G h sz [.ref (ad 0 0), .int (nI j)] (fun r u => u = h ∧ r = v) := by
  have hf0 := fAk_0 hj hn
  refine hv_m0i (c_X4_isLarge l hlt G h sz hD (nI j) hn) (fun r u z => ⟨z.2.1, ?_⟩) (fun E u z => ?_)
  · rw [z.2.2, nI_clamp (by omega)]
    exact ev
  · rcases z with ⟨_, z, _⟩
    exact one_ne (hf0.symm.trans z)
theorem k_treatyRate (l : Launch) (hlt : l.stackTraces = false) (G : hv_G) (h : hv) (sz : Nat) {ad : Nat → Nat → Nat} {n d dl : Nat} {dy : Int32} {rf : Int64} {ar : AR} {fm : Nat → Int32} {po : PO} (hD : isD G h ad n d dl dy rf ar fm po) {j : Nat} (hn : n ≤ 20) (hj : j < n) (h2 : ¬ ar 4 j = 2) {v : Int32} (ev : ownF (rD (ar 1) (ar 5 j)) (rD (ar 2) (ar 5 j)) (hlg (ar 4 j) (ar 6 j) (ar 8 j) dy) = v) : hv_Mi l yX4_treatyRate wsX4_treatyRate 8 200 2 12 G h sz [.ref (ad 0 0), .int (nI j)] (fun r u => u = h ∧ r = v) := by
  have hf0 : fRt (nI j) n (ar 4) = 0 := by
    unfold fRt
    rw [if_neg (iw_in hj (by omega)), nI_clamp (by omega), if_neg h2]
  refine hv_m0i (c_X4_treatyRate l hlt G h sz hD (nI j) hn) (fun r u z => ⟨z.2.1, ?_⟩) (fun E u z => ?_)
  · rw [z.2.2, nI_clamp (by omega)]
    exact ev
  · rcases z with ⟨_, ⟨z, _⟩ | ⟨z, _⟩⟩
    · exact one_ne (hf0.symm.trans z)
    · exact two_ne (hf0.symm.trans z)
theorem k_gross (l : Launch) (hlt : l.stackTraces = false) (G : hv_G) (h : hv) (sz : Nat) {ad : Nat → Nat → Nat} {n d dl : Nat} {dy : Int32} {rf : Int64} {ar : AR} {fm : Nat → Int32} {po : PO} (hD : isD G h ad n d dl dy rf ar fm po) {D j : Nat} (hn : n ≤ 20) (hdl : dl ≤ d) (hd : d ≤ 40) (hpo : ∀ m, (po m).length ≤ 32) (hDl : D < dl) (hj : j < n) {v : Int32} (ev : ar 12 (20 * D + j) = v) : hv_Mi l yX4_gross wsX4_gross 10 300 2 12 G h sz [.ref (ad 0 0), .int (nI D), .int (nI j)] (fun r u => u = h ∧ r = v) := by
  have hf0 := fAa_0 hDl (Nat.le_trans hdl hd) hj hn
  refine hv_m0i (c_X4_gross l hlt G h sz hD (nI D) (nI j) hn hdl hd (fun m _ => hpo m)) (fun r u z => ⟨z.2.1, ?_⟩) (fun E u z => ?_)
  · rw [z.2.2, nI_clamp (by omega), nI_clamp (by omega)]
    exact ev
  · rcases z with ⟨_, z, _⟩
    exact one_ne (hf0.symm.trans z)
theorem k_held (l : Launch) (hlt : l.stackTraces = false) (G : hv_G) (h : hv) (sz : Nat) {ad : Nat → Nat → Nat} {n d dl : Nat} {dy : Int32} {rf : Int64} {ar : AR} {fm : Nat → Int32} {po : PO} (hD : isD G h ad n d dl dy rf ar fm po) {D j : Nat} (hn : n ≤ 20) (hdl : dl ≤ d) (hd : d ≤ 40) (hpo : ∀ m, (po m).length ≤ 32) (hDl : D < dl) (hj : j < n) {v : Int32} (ev : (if ar 12 (20 * D + j) = 0 then 0 else ar 13 (20 * D + j)) = v) : hv_Mi l yX4_held wsX4_held 10 300 2 12 G h sz [.ref (ad 0 0), .int (nI D), .int (nI j)] (fun r u => u = h ∧ r = v) := by
  have hf0 := fAa_0 hDl (Nat.le_trans hdl hd) hj hn
  refine hv_m0i (c_X4_held l hlt G h sz hD (nI D) (nI j) hn hdl hd (fun m _ => hpo m)) (fun r u z => ⟨z.2.1, ?_⟩) (fun E u z => ?_)
  · rw [z.2.2, nI_clamp (by omega), nI_clamp (by omega)]
    exact ev
  · rcases z with ⟨_, z, _⟩
    exact one_ne (hf0.symm.trans z)
theorem k_due (l : Launch) (hlt : l.stackTraces = false) (G : hv_G) (h : hv) (sz : Nat) {ad : Nat → Nat → Nat} {n d dl : Nat} {dy : Int32} {rf : Int64} {ar : AR} {fm : Nat → Int32} {po : PO} (hD : isD G h ad n d dl dy rf ar fm po) {D j : Nat} (hn : n ≤ 20) (hdl : dl ≤ d) (hd : d ≤ 40) (hpo : ∀ m, (po m).length ≤ 32) (hDl : D < dl) (hj : j < n) {v : Int32} (ev : (if ar 12 (20 * D + j) = 0 then 0 else tall (po (20 * D + j)) (-1)) = v) : hv_Mi l yX4_due wsX4_due 10 300 2 12 G h sz [.ref (ad 0 0), .int (nI D), .int (nI j)] (fun r u => u = h ∧ r = v) := by
  have hf0 := fAa_0 hDl (Nat.le_trans hdl hd) hj hn
  refine hv_m0i (c_X4_due l hlt G h sz hD (nI D) (nI j) hn hdl hd (fun m _ => hpo m)) (fun r u z => ⟨z.2.1, ?_⟩) (fun E u z => ?_)
  · rw [z.2.2, nI_clamp (by omega), nI_clamp (by omega)]
    exact ev
  · rcases z with ⟨_, z, _⟩
    exact one_ne (hf0.symm.trans z)
theorem bI_0 {b : Bool} (h : ¬ b = true) : (0 : Int32) = bI b := (if_neg h).symm
theorem bI_1 {b : Bool} (h : b = true) : (1 : Int32) = bI b := (if_pos h).symm
theorem bI_e {b : Bool} : bI b = 0 ↔ ¬ b = true := by
  constructor
  · intro z c
    rw [show bI b = 1 from if_pos c] at z
    exact absurd z (by decide)
  · intro c
    exact if_neg c
