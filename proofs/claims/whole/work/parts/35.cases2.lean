/-! ===== the law's cases: holders, pay days, refunds ===== -/
theorem fRf_0 {a b : Int32} {n d : Nat} {gr po : Nat → Int32} {dy : Int32} (hn : n ≤ 1000) (hd : d ≤ 1000) (h : fRf a b n d gr po dy = 0) : a.toNatClampNeg < d ∧ b.toNatClampNeg < n ∧ ¬ gr (20 * a.toNatClampNeg + b.toNatClampNeg) = 0 := by
  unfold fRf at h
  by_cases c : iw a 0 (nI d - 1) = 0
  · simp [c] at h
  · by_cases c2 : iw b 0 (nI n - 1) = 0
    · simp [c, c2] at h
    · refine ⟨iwh_lt hd c, iwh_lt hn c2, fun z => ?_⟩
      simp [c, c2, ovF, z] at h
theorem fCl_0 {a b : Int32} {n d : Nat} {gr po vt : Nat → Int32} {dy : Int32} (hn : n ≤ 1000) (hd : d ≤ 1000) (h : fCl a b n d gr po vt dy = 0) : a.toNatClampNeg < d ∧ b.toNatClampNeg < n ∧ ¬ gr (20 * a.toNatClampNeg + b.toNatClampNeg) = 0 := by
  unfold fCl at h
  by_cases c : iw a 0 (nI d - 1) = 0
  · simp [c] at h
  · by_cases c2 : iw b 0 (nI n - 1) = 0
    · simp [c, c2] at h
    · refine ⟨iwh_lt hd c, iwh_lt hn c2, fun z => ?_⟩
      simp [c, c2, ovF, z] at h
section CASES
variable {G : hv_G} {hX hM uX uM : hv} {ad : Nat → Nat → Nat} {o : Nat} {md : Nat → Nat} {n d : Nat} {dy : Int32} {rf : Int64} {th : Int32} {ar : Nat → Nat → Int32} {fm : Nat → Int32} {po : Nat → List (Int32 × Int32 × Int32)} {p0 p1 p2 r b : Int32} {v : Int64}
theorem case_addHolder (hD : isD G hX ad n d d dy rf ar fm po) (R : Rel n d dy ar fm po) (W : (r = 0 ∧ ∃ r0 : Int32, v = r0.toInt64 ∧ fAh p0 p1 n = 0 ∧ r0 = nI n ∧ ∃ ad2, ad2 0 0 = ad 0 0 ∧ isD G uX ad2 (n + 1) d d dy rf (va_up (va_up ar 4 (upd (ar 4) n p0)) 5 (upd (ar 5) n p1)) fm po) ∨ (r = fAh p0 p1 n ∧ ¬ fAh p0 p1 n = 0 ∧ uX = hX)) (M : (fAh p0 p1 n = 0 → b = nI n ∧ isM G uM o md dy (n + 1) d rf 0 (va_up (va_up ar 4 (upd (ar 4) n p0)) 5 (upd (ar 5) n p1))) ∧ (¬ fAh p0 p1 n = 0 → isM G uM o md dy n d rf (fAh p0 p1 n) ar)) : LSt G (ad 0 0) o md uX uM r ∧ (r = 0 → v = b.toInt64) := by
  have hn := R.1.1
  have hd := R.1.2.1
  rcases case_w W M with ⟨f, r0, e, ⟨ad2, e2, a⟩, c⟩ | ⟨f, r0, e, c⟩
  · subst r0
    exact ⟨⟨ad2, n + 1, d, _, _, _, _, _, e2.symm, a, c, Rel_holder R f⟩, fun _ => e⟩
  · subst e
    subst r0
    exact ⟨⟨ad, n, d, _, _, _, _, _, rfl, hD, c, R⟩, fun z => absurd z f⟩
theorem case_pay (hD : isD G hX ad n d d dy rf ar fm po) (R : Rel n d dy ar fm po) (W : (r = 0 ∧ ∃ r0 : Int32, v = r0.toInt64 ∧ fPy p0 d (l_sum (ar 6) n) = 0 ∧ r0 = nI d ∧ ∃ ad2, ad2 0 0 = ad 0 0 ∧ isD G uX ad2 n (d + 1) (d + 1) dy rf (payDv ar dy d p0 (heP dy n ar d p0 (vfm dy (ar 7) n)) n) (va_up fm d (vfm dy (ar 7) n)) (poS po d (mkS dy n ar d p0 po) n)) ∨ (r = fPy p0 d (l_sum (ar 6) n) ∧ ¬ fPy p0 d (l_sum (ar 6) n) = 0 ∧ uX = hX)) (M : (fPy p0 d (l_sum (ar 6) n) = 0 → b = nI d ∧ isM G uM o md dy n (d + 1) rf 0 (payR ar dy n d p0 n)) ∧ (¬ fPy p0 d (l_sum (ar 6) n) = 0 → isM G uM o md dy n d rf (fPy p0 d (l_sum (ar 6) n)) ar)) : LSt G (ad 0 0) o md uX uM r ∧ (r = 0 → v = b.toInt64) := by
  have hn := R.1.1
  have hd := R.1.2.1
  rcases case_w W M with ⟨f, r0, e, ⟨ad2, e2, a⟩, c⟩ | ⟨f, r0, e, c⟩
  · subst r0
    obtain ⟨hc, h40⟩ := fPy_c f
    have hd4 : d < 40 := Nat.lt_of_le_of_ne hd (fun z => h40 (by rw [z]; rfl))
    exact ⟨⟨ad2, n, d + 1, _, _, _, _, _, e2.symm, isD_paid R hc hd4 a, c, Rel_pay R f⟩, fun _ => e⟩
  · subst e
    subst r0
    exact ⟨⟨ad, n, d, _, _, _, _, _, rfl, hD, c, R⟩, fun z => absurd z f⟩
theorem case_refund (hD : isD G hX ad n d d dy rf ar fm po) (R : Rel n d dy ar fm po) (W : (r = 0 ∧ ∃ r0 : Int32, v = r0.toInt64 ∧ fRf p0 p1 n d (ar 12) (ar 11) dy = 0 ∧ r0 = lowF (ar 13 (20 * p0.toNatClampNeg + p1.toNatClampNeg)) (tall (po (20 * p0.toNatClampNeg + p1.toNatClampNeg)) (fm p0.toNatClampNeg ||| vfm dy (ar 7) n)) ∧ isD G uX ad n d d dy (rf + (lowF (ar 13 (20 * p0.toNatClampNeg + p1.toNatClampNeg)) (tall (po (20 * p0.toNatClampNeg + p1.toNatClampNeg)) (fm p0.toNatClampNeg ||| vfm dy (ar 7) n))).toInt64) (va_up ar 13 (upd (ar 13) (20 * p0.toNatClampNeg + p1.toNatClampNeg) (ar 13 (20 * p0.toNatClampNeg + p1.toNatClampNeg) - lowF (ar 13 (20 * p0.toNatClampNeg + p1.toNatClampNeg)) (tall (po (20 * p0.toNatClampNeg + p1.toNatClampNeg)) (fm p0.toNatClampNeg ||| vfm dy (ar 7) n))))) fm po) ∨ (r = fRf p0 p1 n d (ar 12) (ar 11) dy ∧ ¬ fRf p0 p1 n d (ar 12) (ar 11) dy = 0 ∧ uX = hX)) (M : (fRf p0 p1 n d (ar 12) (ar 11) dy = 0 → b = mor (ar 13 (20 * p0.toNatClampNeg + p1.toNatClampNeg)) (taxF dy n (ar 4) (ar 7) (ar 12) (ar 15) (ar 16) (ar 17) (ar 18) p0.toNatClampNeg p1.toNatClampNeg 1 0) ∧ isM G uM o md dy n d (rf + (mor (ar 13 (20 * p0.toNatClampNeg + p1.toNatClampNeg)) (taxF dy n (ar 4) (ar 7) (ar 12) (ar 15) (ar 16) (ar 17) (ar 18) p0.toNatClampNeg p1.toNatClampNeg 1 0)).toInt64) 0 (va_up ar 13 (upd (ar 13) (20 * p0.toNatClampNeg + p1.toNatClampNeg) (ar 13 (20 * p0.toNatClampNeg + p1.toNatClampNeg) - mor (ar 13 (20 * p0.toNatClampNeg + p1.toNatClampNeg)) (taxF dy n (ar 4) (ar 7) (ar 12) (ar 15) (ar 16) (ar 17) (ar 18) p0.toNatClampNeg p1.toNatClampNeg 1 0))))) ∧ (¬ fRf p0 p1 n d (ar 12) (ar 11) dy = 0 → isM G uM o md dy n d rf (fRf p0 p1 n d (ar 12) (ar 11) dy) ar)) : LSt G (ad 0 0) o md uX uM r ∧ (r = 0 → v = b.toInt64) := by
  have hn := R.1.1
  have hd := R.1.2.1
  by_cases f : fRf p0 p1 n d (ar 12) (ar 11) dy = 0
  · obtain ⟨z1, z2, z3⟩ := fRf_0 (by omega) (by omega) f
    have eT := tax_now R z1 (Nat.lt_of_lt_of_le z2 hn) z3
    rw [eT] at W
    obtain ⟨e1, R2⟩ := back_eq R z1 (Nat.lt_of_lt_of_le z2 hn) z3 (x := (taxF dy n (ar 4) (ar 7) (ar 12) (ar 15) (ar 16) (ar 17) (ar 18) p0.toNatClampNeg p1.toNatClampNeg 1 0)) ⟨_, taxF_G _ _ _ _ _ _ _ _ _ _ _ _ _⟩
    rw [e1] at W
    rcases case_w W M with ⟨f, r0, e, a, c⟩ | ⟨f2, r0, e, c⟩
    · subst r0
      exact ⟨⟨ad, n, d, _, _, _, _, _, rfl, a, c, R2⟩, fun _ => e⟩
    · exact absurd f f2
  · rcases W with ⟨_, _, _, w3, _⟩ | ⟨w1, w2, w3⟩
    · exact absurd w3 f
    · subst w3
      rw [w1]
      exact ⟨⟨ad, n, d, _, _, _, _, _, rfl, hD, M.2 f, R⟩, fun z => absurd z f⟩
theorem case_claim (hD : isD G hX ad n d d dy rf ar fm po) (R : Rel n d dy ar fm po) (W : (r = 0 ∧ ∃ r0 : Int32, v = r0.toInt64 ∧ fCl p0 p1 n d (ar 12) (ar 11) (ar 7) dy = 0 ∧ r0 = lowF (ar 13 (20 * p0.toNatClampNeg + p1.toNatClampNeg)) (tall (po (20 * p0.toNatClampNeg + p1.toNatClampNeg)) (-1)) ∧ isD G uX ad n d d dy (rf + (lowF (ar 13 (20 * p0.toNatClampNeg + p1.toNatClampNeg)) (tall (po (20 * p0.toNatClampNeg + p1.toNatClampNeg)) (-1))).toInt64) (va_up ar 13 (upd (ar 13) (20 * p0.toNatClampNeg + p1.toNatClampNeg) (ar 13 (20 * p0.toNatClampNeg + p1.toNatClampNeg) - lowF (ar 13 (20 * p0.toNatClampNeg + p1.toNatClampNeg)) (tall (po (20 * p0.toNatClampNeg + p1.toNatClampNeg)) (-1))))) fm po) ∨ (r = fCl p0 p1 n d (ar 12) (ar 11) (ar 7) dy ∧ ¬ fCl p0 p1 n d (ar 12) (ar 11) (ar 7) dy = 0 ∧ uX = hX)) (M : (fCl p0 p1 n d (ar 12) (ar 11) (ar 7) dy = 0 → b = mor (ar 13 (20 * p0.toNatClampNeg + p1.toNatClampNeg)) (ar 14 (20 * p0.toNatClampNeg + p1.toNatClampNeg)) ∧ isM G uM o md dy n d (rf + (mor (ar 13 (20 * p0.toNatClampNeg + p1.toNatClampNeg)) (ar 14 (20 * p0.toNatClampNeg + p1.toNatClampNeg))).toInt64) 0 (va_up ar 13 (upd (ar 13) (20 * p0.toNatClampNeg + p1.toNatClampNeg) (ar 13 (20 * p0.toNatClampNeg + p1.toNatClampNeg) - mor (ar 13 (20 * p0.toNatClampNeg + p1.toNatClampNeg)) (ar 14 (20 * p0.toNatClampNeg + p1.toNatClampNeg)))))) ∧ (¬ fCl p0 p1 n d (ar 12) (ar 11) (ar 7) dy = 0 → isM G uM o md dy n d rf (fCl p0 p1 n d (ar 12) (ar 11) (ar 7) dy) ar)) : LSt G (ad 0 0) o md uX uM r ∧ (r = 0 → v = b.toInt64) := by
  have hn := R.1.1
  have hd := R.1.2.1
  by_cases f : fCl p0 p1 n d (ar 12) (ar 11) (ar 7) dy = 0
  · obtain ⟨z1, z2, z3⟩ := fCl_0 (by omega) (by omega) f
    have eT := tax_all R z1 (Nat.lt_of_lt_of_le z2 hn) z3
    rw [eT] at W
    obtain ⟨e1, R2⟩ := back_eq R z1 (Nat.lt_of_lt_of_le z2 hn) z3 (x := (ar 14 (20 * p0.toNatClampNeg + p1.toNatClampNeg))) ⟨_, ((R.2.2.2.2.2 _ z1 _ (Nat.lt_of_lt_of_le z2 hn)).2 z3).2.2.2.2.2⟩
    rw [e1] at W
    rcases case_w W M with ⟨f, r0, e, a, c⟩ | ⟨f2, r0, e, c⟩
    · subst r0
      exact ⟨⟨ad, n, d, _, _, _, _, _, rfl, a, c, R2⟩, fun _ => e⟩
    · exact absurd f f2
  · rcases W with ⟨_, _, _, w3, _⟩ | ⟨w1, w2, w3⟩
    · exact absurd w3 f
    · subst w3
      rw [w1]
      exact ⟨⟨ad, n, d, _, _, _, _, _, rfl, hD, M.2 f, R⟩, fun z => absurd z f⟩
theorem case_isValid (hD : isD G hX ad n d d dy rf ar fm po) (R : Rel n d dy ar fm po) (W : (r = 0 ∧ ∃ r0 : Int32, v = (if r0 = 0 then 0 else 1) ∧ fAk p0 n = 0 ∧ uX = hX ∧ r0 = hf dy (ar 7 p0.toNatClampNeg)) ∨ (r = fAk p0 n ∧ ¬ fAk p0 n = 0 ∧ uX = hX)) (M : (fAk p0 n = 0 → b = hf dy (ar 7 p0.toNatClampNeg) ∧ isM G uM o md dy n d rf 0 ar) ∧ (¬ fAk p0 n = 0 → isM G uM o md dy n d rf (fAk p0 n) ar)) : LSt G (ad 0 0) o md uX uM r ∧ (r = 0 → v = if b = 0 then 0 else 1) := by
  rcases W with ⟨w1, r0, w2, w3, w4, w5⟩ | ⟨w1, w2, w3⟩
  · obtain ⟨m1, m2⟩ := M.1 w3
    subst w4
    subst w1
    exact ⟨⟨ad, n, d, _, _, _, _, _, rfl, hD, m2, R⟩, fun _ => by rw [w2, w5, m1]⟩
  · subst w3
    rw [w1]
    exact ⟨⟨ad, n, d, _, _, _, _, _, rfl, hD, M.2 w2, R⟩, fun z => absurd z w2⟩
theorem case_isLarge (hD : isD G hX ad n d d dy rf ar fm po) (R : Rel n d dy ar fm po) (W : (r = 0 ∧ ∃ r0 : Int32, v = (if r0 = 0 then 0 else 1) ∧ fAk p0 n = 0 ∧ uX = hX ∧ r0 = hlg (ar 4 p0.toNatClampNeg) (ar 6 p0.toNatClampNeg) (ar 8 p0.toNatClampNeg) dy) ∨ (r = fAk p0 n ∧ ¬ fAk p0 n = 0 ∧ uX = hX)) (M : (fAk p0 n = 0 → b = hlg (ar 4 p0.toNatClampNeg) (ar 6 p0.toNatClampNeg) (ar 8 p0.toNatClampNeg) dy ∧ isM G uM o md dy n d rf 0 ar) ∧ (¬ fAk p0 n = 0 → isM G uM o md dy n d rf (fAk p0 n) ar)) : LSt G (ad 0 0) o md uX uM r ∧ (r = 0 → v = if b = 0 then 0 else 1) := by
  rcases W with ⟨w1, r0, w2, w3, w4, w5⟩ | ⟨w1, w2, w3⟩
  · obtain ⟨m1, m2⟩ := M.1 w3
    subst w4
    subst w1
    exact ⟨⟨ad, n, d, _, _, _, _, _, rfl, hD, m2, R⟩, fun _ => by rw [w2, w5, m1]⟩
  · subst w3
    rw [w1]
    exact ⟨⟨ad, n, d, _, _, _, _, _, rfl, hD, M.2 w2, R⟩, fun z => absurd z w2⟩
end CASES
