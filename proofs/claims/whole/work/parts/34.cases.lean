/-! ===== the law's cases: what both sides gave, held together ===== -/
/-- the desk and the reference hold one state; th is what the reference says was thrown -/
def LSt (G : hv_G) (x o : Nat) (md : Nat → Nat) (hX hM : hv) (th : Int32) : Prop := ∃ (ad : Nat → Nat → Nat) (n d : Nat) (dy : Int32) (rf : Int64) (ar : Nat → Nat → Int32) (fm : Nat → Int32) (po : Nat → List (Int32 × Int32 × Int32)), x = ad 0 0 ∧ isD G hX ad n d d dy rf ar fm po ∧ isM G hM o md dy n d rf th ar ∧ Rel n d dy ar fm po
theorem case_w {F X r b : Int32} {v : Int64} {PD PM PN U : Prop} (W : (r = 0 ∧ ∃ r0 : Int32, v = r0.toInt64 ∧ F = 0 ∧ r0 = X ∧ PD) ∨ (r = F ∧ ¬ F = 0 ∧ U)) (M : (F = 0 → b = X ∧ PM) ∧ (¬ F = 0 → PN)) : (F = 0 ∧ r = 0 ∧ v = b.toInt64 ∧ PD ∧ PM) ∨ (¬ F = 0 ∧ r = F ∧ U ∧ PN) := by
  rcases W with ⟨w1, r0, w2, w3, w4, w5⟩ | ⟨w1, w2, w3⟩
  · obtain ⟨m1, m2⟩ := M.1 w3
    exact Or.inl ⟨w3, w1, by rw [w2, w4, m1], w5, m2⟩
  · exact Or.inr ⟨w2, w1, w3, M.2 w2⟩
theorem case_r {F X Y r b : Int32} {v : Int64} {PM PN U : Prop} (e : F = 0 → X = Y) (W : (r = 0 ∧ ∃ r0 : Int32, v = r0.toInt64 ∧ F = 0 ∧ U ∧ r0 = X) ∨ (r = F ∧ ¬ F = 0 ∧ U)) (M : (F = 0 → b = Y ∧ PM) ∧ (¬ F = 0 → PN)) : U ∧ ((F = 0 ∧ r = 0 ∧ v = b.toInt64 ∧ PM) ∨ (¬ F = 0 ∧ r = F ∧ PN)) := by
  rcases W with ⟨w1, r0, w2, w3, w5, w4⟩ | ⟨w1, w2, w3⟩
  · obtain ⟨m1, m2⟩ := M.1 w3
    exact ⟨w5, Or.inl ⟨w3, w1, by rw [w2, w4, m1, e w3], m2⟩⟩
  · exact ⟨w3, Or.inr ⟨w2, w1, M.2 w2⟩⟩
theorem fRt_0 {a : Int32} {n : Nat} {kd : Nat → Int32} (hn : n ≤ 1000) (h : fRt a n kd = 0) : a.toNatClampNeg < n ∧ ¬ kd a.toNatClampNeg = 2 := by
  unfold fRt at h
  by_cases c : iw a 0 (nI n - 1) = 0
  · simp [c] at h
  · refine ⟨iwh_lt hn c, fun z => ?_⟩
    simp [c, z] at h
section CASES
variable {G : hv_G} {hX hM uX uM : hv} {ad : Nat → Nat → Nat} {o : Nat} {md : Nat → Nat} {n d : Nat} {dy : Int32} {rf : Int64} {th : Int32} {ar : Nat → Nat → Int32} {fm : Nat → Int32} {po : Nat → List (Int32 × Int32 × Int32)} {p0 p1 p2 r b : Int32} {v : Int64}
theorem case_setTreaty (hD : isD G hX ad n d d dy rf ar fm po) (R : Rel n d dy ar fm po) (W : (r = 0 ∧ ∃ r0 : Int32, v = r0.toInt64 ∧ fTr p0 p1 p2 = 0 ∧ r0 = ar 1 p0.toNatClampNeg ∧ isD G uX ad n d d dy rf (va_up (va_up ar 1 (upd (ar 1) p0.toNatClampNeg p1)) 2 (upd (ar 2) p0.toNatClampNeg p2)) fm po) ∨ (r = fTr p0 p1 p2 ∧ ¬ fTr p0 p1 p2 = 0 ∧ uX = hX)) (M : (fTr p0 p1 p2 = 0 → b = ar 1 p0.toNatClampNeg ∧ isM G uM o md dy n d rf 0 (va_up (va_up ar 1 (upd (ar 1) p0.toNatClampNeg p1)) 2 (upd (ar 2) p0.toNatClampNeg p2))) ∧ (¬ fTr p0 p1 p2 = 0 → isM G uM o md dy n d rf (fTr p0 p1 p2) ar)) : LSt G (ad 0 0) o md uX uM r ∧ (r = 0 → v = b.toInt64) := by
  rcases case_w W M with ⟨f, r0, e, a, c⟩ | ⟨f, r0, e, c⟩
  · subst r0
    exact ⟨⟨ad, n, d, _, _, _, _, _, rfl, a, c, Rel_treaty R f⟩, fun _ => e⟩
  · subst e
    subst r0
    exact ⟨⟨ad, n, d, _, _, _, _, _, rfl, hD, c, R⟩, fun z => absurd z f⟩
theorem case_setParts (hD : isD G hX ad n d d dy rf ar fm po) (R : Rel n d dy ar fm po) (W : (r = 0 ∧ ∃ r0 : Int32, v = r0.toInt64 ∧ fSp p0 p1 p2 n (ar 4) = 0 ∧ r0 = ar 9 (20 * p0.toNatClampNeg + p1.toNatClampNeg) ∧ isD G uX ad n d d dy rf (va_up ar 9 (upd (ar 9) (20 * p0.toNatClampNeg + p1.toNatClampNeg) p2)) fm po) ∨ (r = fSp p0 p1 p2 n (ar 4) ∧ ¬ fSp p0 p1 p2 n (ar 4) = 0 ∧ uX = hX)) (M : (fSp p0 p1 p2 n (ar 4) = 0 → b = ar 9 (20 * p0.toNatClampNeg + p1.toNatClampNeg) ∧ isM G uM o md dy n d rf 0 (va_up ar 9 (upd (ar 9) (20 * p0.toNatClampNeg + p1.toNatClampNeg) p2))) ∧ (¬ fSp p0 p1 p2 n (ar 4) = 0 → isM G uM o md dy n d rf (fSp p0 p1 p2 n (ar 4)) ar)) : LSt G (ad 0 0) o md uX uM r ∧ (r = 0 → v = b.toInt64) := by
  rcases case_w W M with ⟨f, r0, e, a, c⟩ | ⟨f, r0, e, c⟩
  · subst r0
    exact ⟨⟨ad, n, d, _, _, _, _, _, rfl, a, c, Rel_parts R f⟩, fun _ => e⟩
  · subst e
    subst r0
    exact ⟨⟨ad, n, d, _, _, _, _, _, rfl, hD, c, R⟩, fun z => absurd z f⟩
theorem case_setShares (hD : isD G hX ad n d d dy rf ar fm po) (R : Rel n d dy ar fm po) (W : (r = 0 ∧ ∃ r0 : Int32, v = r0.toInt64 ∧ fSs p0 p1 n (ar 6) = 0 ∧ r0 = ar 6 p0.toNatClampNeg ∧ isD G uX ad n d d dy rf (va_up ar 6 (upd (ar 6) p0.toNatClampNeg p1)) fm po) ∨ (r = fSs p0 p1 n (ar 6) ∧ ¬ fSs p0 p1 n (ar 6) = 0 ∧ uX = hX)) (M : (fSs p0 p1 n (ar 6) = 0 → b = ar 6 p0.toNatClampNeg ∧ isM G uM o md dy n d rf 0 (va_up ar 6 (upd (ar 6) p0.toNatClampNeg p1))) ∧ (¬ fSs p0 p1 n (ar 6) = 0 → isM G uM o md dy n d rf (fSs p0 p1 n (ar 6)) ar)) : LSt G (ad 0 0) o md uX uM r ∧ (r = 0 → v = b.toInt64) := by
  rcases case_w W M with ⟨f, r0, e, a, c⟩ | ⟨f, r0, e, c⟩
  · subst r0
    exact ⟨⟨ad, n, d, _, _, _, _, _, rfl, a, c, Rel_shares R f⟩, fun _ => e⟩
  · subst e
    subst r0
    exact ⟨⟨ad, n, d, _, _, _, _, _, rfl, hD, c, R⟩, fun z => absurd z f⟩
theorem case_giveForm (hD : isD G hX ad n d d dy rf ar fm po) (R : Rel n d dy ar fm po) (W : (r = 0 ∧ ∃ r0 : Int32, v = r0.toInt64 ∧ fGf p0 n = 0 ∧ r0 = dy + 1080 ∧ isD G uX ad n d d dy rf (va_up ar 7 (upd (ar 7) p0.toNatClampNeg (dy + 1080))) fm po) ∨ (r = fGf p0 n ∧ ¬ fGf p0 n = 0 ∧ uX = hX)) (M : (fGf p0 n = 0 → b = dy + 1080 ∧ isM G uM o md dy n d rf 0 (va_up ar 7 (upd (ar 7) p0.toNatClampNeg (dy + 1080)))) ∧ (¬ fGf p0 n = 0 → isM G uM o md dy n d rf (fGf p0 n) ar)) : LSt G (ad 0 0) o md uX uM r ∧ (r = 0 → v = b.toInt64) := by
  rcases case_w W M with ⟨f, r0, e, a, c⟩ | ⟨f, r0, e, c⟩
  · subst r0
    exact ⟨⟨ad, n, d, _, _, _, _, _, rfl, a, c, (fun R f => Rel_form R f _) R f⟩, fun _ => e⟩
  · subst e
    subst r0
    exact ⟨⟨ad, n, d, _, _, _, _, _, rfl, hD, c, R⟩, fun z => absurd z f⟩
theorem case_pass (hD : isD G hX ad n d d dy rf ar fm po) (R : Rel n d dy ar fm po) (W : (r = 0 ∧ ∃ r0 : Int32, v = r0.toInt64 ∧ fPs p0 dy = 0 ∧ r0 = dy + p0 ∧ isD G uX ad n d d (dy + p0) rf (va_up ar 8 (psS (ar 6) (ar 8) dy n)) fm po) ∨ (r = fPs p0 dy ∧ ¬ fPs p0 dy = 0 ∧ uX = hX)) (M : (fPs p0 dy = 0 → b = dy + p0 ∧ isM G uM o md (dy + p0) n d rf 0 (va_up ar 8 (psS (ar 6) (ar 8) dy n))) ∧ (¬ fPs p0 dy = 0 → isM G uM o md dy n d rf (fPs p0 dy) ar)) : LSt G (ad 0 0) o md uX uM r ∧ (r = 0 → v = b.toInt64) := by
  rcases case_w W M with ⟨f, r0, e, a, c⟩ | ⟨f, r0, e, c⟩
  · subst r0
    exact ⟨⟨ad, n, d, _, _, _, _, _, rfl, a, c, Rel_pass R f⟩, fun _ => e⟩
  · subst e
    subst r0
    exact ⟨⟨ad, n, d, _, _, _, _, _, rfl, hD, c, R⟩, fun z => absurd z f⟩
theorem case_shares (hD : isD G hX ad n d d dy rf ar fm po) (R : Rel n d dy ar fm po) (W : (r = 0 ∧ ∃ r0 : Int32, v = r0.toInt64 ∧ fAk p0 n = 0 ∧ uX = hX ∧ r0 = ar 6 p0.toNatClampNeg) ∨ (r = fAk p0 n ∧ ¬ fAk p0 n = 0 ∧ uX = hX)) (M : (fAk p0 n = 0 → b = ar 6 p0.toNatClampNeg ∧ isM G uM o md dy n d rf 0 ar) ∧ (¬ fAk p0 n = 0 → isM G uM o md dy n d rf (fAk p0 n) ar)) : LSt G (ad 0 0) o md uX uM r ∧ (r = 0 → v = b.toInt64) := by
  obtain ⟨u, z⟩ := case_r (fun _ => rfl) W M
  subst u
  rcases z with ⟨f, r0, e, c⟩ | ⟨f, r0, c⟩
  · subst r0
    exact ⟨⟨ad, n, d, _, _, _, _, _, rfl, hD, c, R⟩, fun _ => e⟩
  · subst r0
    exact ⟨⟨ad, n, d, _, _, _, _, _, rfl, hD, c, R⟩, fun z => absurd z f⟩
theorem case_gross (hD : isD G hX ad n d d dy rf ar fm po) (R : Rel n d dy ar fm po) (W : (r = 0 ∧ ∃ r0 : Int32, v = r0.toInt64 ∧ fAa p0 p1 n d = 0 ∧ uX = hX ∧ r0 = ar 12 (20 * p0.toNatClampNeg + p1.toNatClampNeg)) ∨ (r = fAa p0 p1 n d ∧ ¬ fAa p0 p1 n d = 0 ∧ uX = hX)) (M : (fAa p0 p1 n d = 0 → b = ar 12 (20 * p0.toNatClampNeg + p1.toNatClampNeg) ∧ isM G uM o md dy n d rf 0 ar) ∧ (¬ fAa p0 p1 n d = 0 → isM G uM o md dy n d rf (fAa p0 p1 n d) ar)) : LSt G (ad 0 0) o md uX uM r ∧ (r = 0 → v = b.toInt64) := by
  obtain ⟨u, z⟩ := case_r (fun _ => rfl) W M
  subst u
  rcases z with ⟨f, r0, e, c⟩ | ⟨f, r0, c⟩
  · subst r0
    exact ⟨⟨ad, n, d, _, _, _, _, _, rfl, hD, c, R⟩, fun _ => e⟩
  · subst r0
    exact ⟨⟨ad, n, d, _, _, _, _, _, rfl, hD, c, R⟩, fun z => absurd z f⟩
theorem case_held (hD : isD G hX ad n d d dy rf ar fm po) (R : Rel n d dy ar fm po) (W : (r = 0 ∧ ∃ r0 : Int32, v = r0.toInt64 ∧ fAa p0 p1 n d = 0 ∧ uX = hX ∧ r0 = (if ar 12 (20 * p0.toNatClampNeg + p1.toNatClampNeg) = 0 then 0 else ar 13 (20 * p0.toNatClampNeg + p1.toNatClampNeg))) ∨ (r = fAa p0 p1 n d ∧ ¬ fAa p0 p1 n d = 0 ∧ uX = hX)) (M : (fAa p0 p1 n d = 0 → b = ar 13 (20 * p0.toNatClampNeg + p1.toNatClampNeg) ∧ isM G uM o md dy n d rf 0 ar) ∧ (¬ fAa p0 p1 n d = 0 → isM G uM o md dy n d rf (fAa p0 p1 n d) ar)) : LSt G (ad 0 0) o md uX uM r ∧ (r = 0 → v = b.toInt64) := by
  obtain ⟨u, z⟩ := case_r (fun f => held_eq R (iwh_lt (by have := R.1.2.1; omega) (fAa_0 f).1) (Nat.lt_of_lt_of_le (iwh_lt (by have := R.1.1; omega) (fAa_0 f).2) R.1.1)) W M
  subst u
  rcases z with ⟨f, r0, e, c⟩ | ⟨f, r0, c⟩
  · subst r0
    exact ⟨⟨ad, n, d, _, _, _, _, _, rfl, hD, c, R⟩, fun _ => e⟩
  · subst r0
    exact ⟨⟨ad, n, d, _, _, _, _, _, rfl, hD, c, R⟩, fun z => absurd z f⟩
theorem case_due (hD : isD G hX ad n d d dy rf ar fm po) (R : Rel n d dy ar fm po) (W : (r = 0 ∧ ∃ r0 : Int32, v = r0.toInt64 ∧ fAa p0 p1 n d = 0 ∧ uX = hX ∧ r0 = (if ar 12 (20 * p0.toNatClampNeg + p1.toNatClampNeg) = 0 then 0 else tall (po (20 * p0.toNatClampNeg + p1.toNatClampNeg)) (-1))) ∨ (r = fAa p0 p1 n d ∧ ¬ fAa p0 p1 n d = 0 ∧ uX = hX)) (M : (fAa p0 p1 n d = 0 → b = ar 14 (20 * p0.toNatClampNeg + p1.toNatClampNeg) ∧ isM G uM o md dy n d rf 0 ar) ∧ (¬ fAa p0 p1 n d = 0 → isM G uM o md dy n d rf (fAa p0 p1 n d) ar)) : LSt G (ad 0 0) o md uX uM r ∧ (r = 0 → v = b.toInt64) := by
  obtain ⟨u, z⟩ := case_r (fun f => due_eq R (iwh_lt (by have := R.1.2.1; omega) (fAa_0 f).1) (Nat.lt_of_lt_of_le (iwh_lt (by have := R.1.1; omega) (fAa_0 f).2) R.1.1)) W M
  subst u
  rcases z with ⟨f, r0, e, c⟩ | ⟨f, r0, c⟩
  · subst r0
    exact ⟨⟨ad, n, d, _, _, _, _, _, rfl, hD, c, R⟩, fun _ => e⟩
  · subst r0
    exact ⟨⟨ad, n, d, _, _, _, _, _, rfl, hD, c, R⟩, fun z => absurd z f⟩
theorem case_treatyRate (hD : isD G hX ad n d d dy rf ar fm po) (R : Rel n d dy ar fm po) (W : (r = 0 ∧ ∃ r0 : Int32, v = r0.toInt64 ∧ fRt p0 n (ar 4) = 0 ∧ uX = hX ∧ r0 = ownF (rD (ar 1) (ar 5 p0.toNatClampNeg)) (rD (ar 2) (ar 5 p0.toNatClampNeg)) (hlg (ar 4 p0.toNatClampNeg) (ar 6 p0.toNatClampNeg) (ar 8 p0.toNatClampNeg) dy)) ∨ (r = fRt p0 n (ar 4) ∧ ¬ fRt p0 n (ar 4) = 0 ∧ uX = hX)) (M : (fRt p0 n (ar 4) = 0 → b = rtF dy (ar 1) (ar 2) (ar 4) (ar 5) (ar 6) (ar 8) p0.toNatClampNeg ∧ isM G uM o md dy n d rf 0 ar) ∧ (¬ fRt p0 n (ar 4) = 0 → isM G uM o md dy n d rf (fRt p0 n (ar 4)) ar)) : LSt G (ad 0 0) o md uX uM r ∧ (r = 0 → v = b.toInt64) := by
  obtain ⟨u, z⟩ := case_r (fun f => own_rt R.2.1.1 (fRt_0 (by have := R.1.1; omega) f).1 (fRt_0 (by have := R.1.1; omega) f).2) W M
  subst u
  rcases z with ⟨f, r0, e, c⟩ | ⟨f, r0, c⟩
  · subst r0
    exact ⟨⟨ad, n, d, _, _, _, _, _, rfl, hD, c, R⟩, fun _ => e⟩
  · subst r0
    exact ⟨⟨ad, n, d, _, _, _, _, _, rfl, hD, c, R⟩, fun z => absurd z f⟩
end CASES
