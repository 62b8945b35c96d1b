/-! ===== the two sides answer alike ===== -/
section ANS
variable {G : hv_G} {h : hv} {ad : Nat → Nat → Nat} {n d dl : Nat} {dy : Int32} {rf : Int64} {ar : Nat → Nat → Int32} {fm : Nat → Int32} {po : Nat → List (Int32 × Int32 × Int32)}
theorem rD_ok {f : Nat → Int32} {ld : Int32} (hl : vp_in ld 6) : rD f ld = f ld.toNatClampNeg := by
  obtain ⟨i, hi, rfl⟩ := vp_in_of hl (by decide)
  unfold rD
  have e : iw (nI i) 0 5 = 1 := by
    unfold iw
    rw [if_neg (show ¬ nI i < 0 from nI_nlt (Nat.zero_le _) (by omega)), if_neg (show ¬ (5 : Int32) < nI i from nI_nlt (a := 5) (by omega) (by decide))]
  rw [e, if_neg (by decide)]
theorem rD_m1 (f : Nat → Int32) : rD f (-1) = 30 := if_pos (by decide)
theorem sr_eq (hK : RelK n (ar 4) (ar 5)) {j : Nat} (hj : j < n) : rD (ar 1) (ar 5 j) = if ar 4 j = 2 then 30 else ar 1 (ar 5 j).toNatClampNeg := by
  rcases hK j hj with ⟨a, b⟩ | ⟨a, b⟩
  · rw [if_pos a, b, rD_m1]
  · rw [if_neg a, rD_ok b]
theorem own_rt (hK : RelK n (ar 4) (ar 5)) {j : Nat} (hj : j < n) (h2 : ¬ ar 4 j = 2) : ownF (rD (ar 1) (ar 5 j)) (rD (ar 2) (ar 5 j)) (hlg (ar 4 j) (ar 6 j) (ar 8 j) dy) = rtF dy (ar 1) (ar 2) (ar 4) (ar 5) (ar 6) (ar 8) j := by
  rcases hK j hj with ⟨a, b⟩ | ⟨a, b⟩
  · exact absurd a h2
  · rw [rD_ok b, rD_ok b]
    unfold ownF rtF rt
    by_cases c : hlg (ar 4 j) (ar 6 j) (ar 8 j) dy = 0
    · rw [if_pos c, if_pos c]
    · rw [if_neg c, if_neg c]
      by_cases c2 : ar 1 (ar 5 j).toNatClampNeg ≤ ar 2 (ar 5 j).toNatClampNeg
      · rw [if_pos c2, if_neg (Int32.not_lt.mpr c2)]
      · rw [if_neg c2, if_pos (Int32.not_le.mp c2)]
theorem hrs_sum {gr he : Nat → Int32} {D : Nat} (hz : ∀ j, j < 20 → gr (20 * D + j) = 0 → he (20 * D + j) = 0) : ∀ k, k ≤ 20 → hsum he (20 * D + k) = hsum he (20 * D) + hrs gr he D k := by
  intro k
  induction k with
  | zero =>
    intro _
    show hsum he (20 * D) = hsum he (20 * D) + 0
    simp
  | succ k ih =>
    intro hk
    show hsum he (20 * D + k) + (he (20 * D + k)).toInt64 = hsum he (20 * D) + (if gr (20 * D + k) = 0 then hrs gr he D k else hrs gr he D k + (he (20 * D + k)).toInt64)
    rw [ih (by omega)]
    by_cases c : gr (20 * D + k) = 0
    · rw [if_pos c, hz k (by omega) c]
      simp
    · rw [if_neg c, Int64.add_assoc]
theorem hrA_sum {gr he : Nat → Int32} : ∀ D, (∀ E, E < D → ∀ j, j < 20 → gr (20 * E + j) = 0 → he (20 * E + j) = 0) → hrA gr he D = hsum he (20 * D) := by
  intro D
  induction D with
  | zero => intro _; rfl
  | succ D ih =>
    intro hz
    show hrA gr he D + hrs gr he D 20 = hsum he (20 * D + 20)
    rw [ih (fun E hE => hz E (by omega)), hrs_sum (hz D (by omega)) 20 (Nat.le_refl 20)]
theorem hsum_zero {he : Nat → Int32} {a : Nat} : ∀ k, (∀ m, a ≤ m → m < a + k → he m = 0) → hsum he (a + k) = hsum he a := by
  intro k
  induction k with
  | zero => intro _; rfl
  | succ k ih =>
    intro hz
    show hsum he (a + k) + (he (a + k)).toInt64 = _
    rw [ih (fun m h1 h2 => hz m h1 (by omega)), hz (a + k) (by omega) (by omega)]
    simp
theorem held_all (R : Rel n d dy ar fm po) : hrA (ar 12) (ar 13) d = hsum (ar 13) 800 := by
  obtain ⟨⟨h0, h0d, h0t⟩, h2, h7, h8, h9, h10⟩ := R
  rw [hrA_sum d (fun E hE j hj hg => ((h10 E hE j hj).1 hg).1)]
  have e := hsum_zero (he := ar 13) (a := 20 * d) (800 - 20 * d) (fun m h1 h2 => (h7 m h1 (by omega)).2.1)
  rw [show 20 * d + (800 - 20 * d) = 800 by omega] at e
  exact e.symm
theorem cnt_now (vt wv : Int32) : cnt dy vt wv 1 0 = 0 ↔ wv = 0 ∧ hf dy vt = 0 := by
  unfold cnt
  by_cases a : wv = 0 <;> by_cases b : hf dy vt = 0 <;> simp [a, b]
theorem cnt_then (vt wv : Int32) : cnt dy vt wv 0 0 = 0 ↔ wv = 0 := by
  unfold cnt
  by_cases a : wv = 0 <;> simp [a]
theorem tax_now (R : Rel n d dy ar fm po) {D j : Nat} (hD : D < d) (hj : j < 20) (hg : ¬ ar 12 (20 * D + j) = 0) : tall (po (20 * D + j)) (fm D ||| vfm dy (ar 7) n) = taxF dy n (ar 4) (ar 7) (ar 12) (ar 15) (ar 16) (ar 17) (ar 18) D j 1 0 := by
  obtain ⟨⟨h0, h0d, t, ht, et⟩, ⟨h2, h3, h4, h5, h6⟩, h7, h8, h9, h10⟩ := R
  obtain ⟨g1, g2, g3, g4, g5, g6⟩ := (h10 D hD j hj).2 hg
  rw [taxF_G]
  refine g3 _ (fun k => cnt dy (ar 7 k) (ar 17 (20 * D + k)) 1 0) (fun k hk => ?_)
  show (fm D ||| vfm dy (ar 7) n).toBitVec.getLsbD k = true ↔ _
  rw [or_bit, Bool.or_eq_true, show ((fm D).toBitVec.getLsbD k = true) = (bitF (fm D) k = true) from rfl, show ((vfm dy (ar 7) n).toBitVec.getLsbD k = true) = (bitF (vfm dy (ar 7) n) k = true) from rfl, h8 D hD k hk, bit_vfm dy (ar 7) h0 hk, cnt_now]
  by_cases c : k < n
  · by_cases a : ar 17 (20 * D + k) = 0 <;> by_cases b : hf dy (ar 7 k) = 0 <;> simp [a, b, c]
  · have e7 : hf dy (ar 7 k) = 0 := by
      rw [(h5 k (by omega) hk).1, et]
      unfold hf
      rw [if_pos (by
        rw [Int32.lt_iff_toInt_lt, nI_toInt (by omega)]
        have : (-1 : Int32).toInt = -1 := by decide
        omega)]
    by_cases a : ar 17 (20 * D + k) = 0 <;> simp [a, c, e7]
theorem tax_all (R : Rel n d dy ar fm po) {D j : Nat} (hD : D < d) (hj : j < 20) (hg : ¬ ar 12 (20 * D + j) = 0) : tall (po (20 * D + j)) (-1) = ar 14 (20 * D + j) := by
  obtain ⟨-, -, h7, h8, h9, h10⟩ := R
  obtain ⟨g1, g2, g3, g4, g5, g6⟩ := (h10 D hD j hj).2 hg
  rw [g6]
  exact g3 _ _ (fun k hk => by simp [bit_m1 k hk])
/-- what is given back, and the state after it -/
theorem back_eq (R : Rel n d dy ar fm po) {D j : Nat} (hD : D < d) (hj : j < 20) (hg : ¬ ar 12 (20 * D + j) = 0) {x : Int32} (hx : ∃ v : Nat → Int32, x = TXA n ar D j v) :
    lowF (ar 13 (20 * D + j)) x = mor (ar 13 (20 * D + j)) x ∧ Rel n d dy (va_up ar 13 (upd (ar 13) (20 * D + j) (ar 13 (20 * D + j) - mor (ar 13 (20 * D + j)) x))) fm po := by
  have h10 := R.2.2.2.2.2
  obtain ⟨g1, g2, g3, g4, ⟨a, ha, ea⟩, g6⟩ := (h10 D hD j hj).2 hg
  obtain ⟨v, rfl⟩ := hx
  obtain ⟨b, hb, eb⟩ := g4 v
  obtain ⟨m1, t, m2, m3⟩ := mor_low ha hb
  rw [ea, eb]
  exact ⟨m1, Rel_back R hD hj hg m2 _ m3⟩
theorem due_eq (R : Rel n d dy ar fm po) {D j : Nat} (hD : D < d) (hj : j < 20) : (if ar 12 (20 * D + j) = 0 then 0 else tall (po (20 * D + j)) (-1)) = ar 14 (20 * D + j) := by
  by_cases c : ar 12 (20 * D + j) = 0
  · rw [if_pos c, ((R.2.2.2.2.2 D hD j hj).1 c).2]
  · rw [if_neg c, tax_all R hD hj c]
theorem held_eq (R : Rel n d dy ar fm po) {D j : Nat} (hD : D < d) (hj : j < 20) : (if ar 12 (20 * D + j) = 0 then 0 else ar 13 (20 * D + j)) = ar 13 (20 * D + j) := by
  by_cases c : ar 12 (20 * D + j) = 0
  · rw [if_pos c, ((R.2.2.2.2.2 D hD j hj).1 c).1]
  · rw [if_neg c]
theorem isD_cg (hD : isD G h ad n d dl dy rf ar fm po) {ar2 : Nat → Nat → Int32} (e : ∀ k, (k = 1 ∨ k = 2 ∨ k = 4 ∨ k = 5 ∨ k = 6 ∨ k = 7 ∨ k = 8 ∨ k = 9 ∨ k = 11 ∨ k = 12) → ar2 k = ar k) (e13 : ∀ m, pmL d (ar 12) m → ar2 13 m = ar 13 m) : isD G h ad n d dl dy rf ar2 fm po := by
  unfold isD
  rw [e 12 (by decide)]
  refine ⟨fun k i hl => ?_, hD.2⟩
  rw [hD.1 k i hl]
  match k, hl with
  | 0, _ => rfl
  | 1, _ =>
    show some (Sum.inl (G.2.1 0, 6, Sum.inl (if i = 0 then ar 1 else ar 2))) = some (Sum.inl (G.2.1 0, 6, Sum.inl (if i = 0 then ar2 1 else ar2 2)))
    rw [e 1 (by decide), e 2 (by decide)]
  | 2, _ => rfl
  | 3, _ => rfl
  | 4, _ =>
    show some (hoE ar (ad 5 i) i) = some (hoE ar2 (ad 5 i) i)
    unfold hoE
    rw [e 4 (by decide), e 5 (by decide), e 6 (by decide), e 7 (by decide), e 8 (by decide)]
  | 5, _ =>
    show some (Sum.inl (G.2.1 0, 20, Sum.inl (prow (ar 9) i))) = some (Sum.inl (G.2.1 0, 20, Sum.inl (prow (ar2 9) i)))
    rw [e 9 (by decide)]
  | 6, _ =>
    show some (Sum.inr (1, [Value.int (ar 11 i), _, _])) = some (Sum.inr (1, [Value.int (ar2 11 i), _, _]))
    rw [e 11 (by decide)]
  | 7, _ =>
    show some (Sum.inl (G.2.1 2, 20, Sum.inr (Sum.inr (Sum.inr (Sum.inr (paysF (ar 12) (ad 8) i)))))) = some (Sum.inl (G.2.1 2, 20, Sum.inr (Sum.inr (Sum.inr (Sum.inr (paysF (ar2 12) (ad 8) i))))))
    rw [e 12 (by decide)]
  | 8, hl =>
    show some (Sum.inr (3, [Value.int (ar 12 i), _, Value.int (ar 13 i)])) = some (Sum.inr (3, [Value.int (ar2 12 i), _, Value.int (ar2 13 i)]))
    rw [e 12 (by decide), e13 i hl]
  | 9, _ => rfl
  | 10, _ => rfl
  | 11, _ => rfl
  | (x + 12), hl => exact hl.elim
end ANS
