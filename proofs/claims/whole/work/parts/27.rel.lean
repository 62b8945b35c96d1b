/-! ===== what always holds of the common state ===== -/
def RelK (n : Nat) (k l : Nat → Int32) : Prop := ∀ j, j < n → (k j = 2 ∧ l j = -1) ∨ (¬ k j = 2 ∧ vp_in (l j) 6)
def RelS (n : Nat) (sh : Nat → Int32) : Prop := ∃ s : Nat → Nat, (∀ j, sh j = nI (s j)) ∧ (∀ j, n ≤ j → s j = 0) ∧ sumN s n ≤ 1000000
def RelP (n : Nat) (f : Nat → Int32) : Prop := ∀ i j, i < 20 → j < 20 → ∃ q : Nat, q ≤ 100 ∧ f (20 * i + j) = nI q ∧ (n ≤ i ∨ n ≤ j → q = 0)
def RelV (n : Nat) (vt es : Nat → Int32) : Prop := ∀ j, n ≤ j → j < 20 → vt j = -1 ∧ es j = -1
def RelR (ge la : Nat → Int32) : Prop := ∀ k, k < 6 → (∃ r : Nat, r ≤ 30 ∧ ge k = nI r) ∧ ∃ r : Nat, r ≤ 30 ∧ la k = nI r
def RelZ (d : Nat) (a b c w : Nat → Int32) : Prop := ∀ m, 20 * d ≤ m → m < 800 → a m = 0 ∧ b m = 0 ∧ c m = 0 ∧ w m = 0
def RelF (d : Nat) (fm wv : Nat → Int32) : Prop := ∀ D, D < d → ∀ k, k < 20 → (bitF (fm D) k = true ↔ ¬ wv (20 * D + k) = 0)
abbrev TXA (n : Nat) (ar : Nat → Nat → Int32) (D j : Nat) (v : Nat → Int32) : Int32 := txG (ar 4 j) (ar 12 (20 * D + j)) (ptF (ar 18) D j) (ar 15) (20 * D) (ar 16 (20 * D + j)) v j n
def RelY (n : Nat) (ar : Nat → Nat → Int32) (po : Nat → List (Int32 × Int32 × Int32)) (D j : Nat) : Prop :=
  (ar 12 (20 * D + j) = 0 → ar 13 (20 * D + j) = 0 ∧ ar 14 (20 * D + j) = 0) ∧
  (¬ ar 12 (20 * D + j) = 0 → j < n ∧ (∀ x, n ≤ x → x < 20 → ptF (ar 18) D j x = 0) ∧
    (∀ (fo : Int32) (v : Nat → Int32), (∀ k, k < 20 → (bitF fo k = true ↔ ¬ v k = 0)) → tall (po (20 * D + j)) fo = TXA n ar D j v) ∧
    (∀ v : Nat → Int32, ∃ t : Nat, t ≤ 2 ^ 29 ∧ TXA n ar D j v = nI t) ∧ (∃ t : Nat, t ≤ 2 ^ 29 ∧ ar 13 (20 * D + j) = nI t) ∧ ar 14 (20 * D + j) = TXA n ar D j (fun _ => 1))
def Rel (n d : Nat) (dy : Int32) (ar : Nat → Nat → Int32) (fm : Nat → Int32) (po : Nat → List (Int32 × Int32 × Int32)) : Prop :=
  (n ≤ 20 ∧ d ≤ 40 ∧ ∃ t : Nat, t ≤ 20000 ∧ dy = nI t) ∧ (RelK n (ar 4) (ar 5) ∧ RelS n (ar 6) ∧ RelP n (ar 9) ∧ RelV n (ar 7) (ar 8) ∧ RelR (ar 1) (ar 2)) ∧
  (RelZ d (ar 12) (ar 13) (ar 14) (ar 17) ∧ RelF d fm (ar 17) ∧ (∀ m, (po m).length ≤ 32) ∧ ∀ D, D < d → ∀ j, j < 20 → RelY n ar po D j)
section REL
variable {n d : Nat} {dy : Int32} {ar : Nat → Nat → Int32} {fm : Nat → Int32} {po : Nat → List (Int32 × Int32 × Int32)}
theorem nI_ex {p : Int32} {k : Nat} (hk : k < 2 ^ 31) (h : ¬ iw p 0 (nI k) = 0) : ∃ r : Nat, r ≤ k ∧ p = nI r := by
  obtain ⟨h1, h2⟩ := iw_no h
  obtain ⟨j, hj, rfl⟩ := nI_of h1
  refine ⟨j, ?_, rfl⟩
  apply Nat.le_of_not_lt
  intro z
  exact h2 (nI_lt z hj)
theorem Rel_treaty (R : Rel n d dy ar fm po) {p0 p1 p2 : Int32} (hF : fTr p0 p1 p2 = 0) : Rel n d dy (va_up (va_up ar 1 (upd (ar 1) p0.toNatClampNeg p1)) 2 (upd (ar 2) p0.toNatClampNeg p2)) fm po := by
  obtain ⟨h1, ⟨h2, h3, h4, h5, h6⟩, h7⟩ := R
  refine ⟨h1, ⟨h2, h3, h4, h5, fun k hk => ?_⟩, h7⟩
  have c1 : ¬ iw p1 0 30 = 0 := fun z => by
    unfold fTr at hF
    by_cases a : iw p0 0 5 = 0 <;> simp [a, z] at hF
  have c2 : ¬ iw p2 0 30 = 0 := fun z => by
    unfold fTr at hF
    by_cases a : iw p0 0 5 = 0 <;> by_cases b : iw p1 0 30 = 0 <;> simp [a, b, z] at hF
  obtain ⟨r1, g1, e1⟩ := nI_ex (k := 30) (by decide) c1
  obtain ⟨r2, g2, e2⟩ := nI_ex (k := 30) (by decide) c2
  obtain ⟨a, b⟩ := h6 k hk
  show (∃ r : Nat, r ≤ 30 ∧ upd (ar 1) p0.toNatClampNeg p1 k = nI r) ∧ ∃ r : Nat, r ≤ 30 ∧ upd (ar 2) p0.toNatClampNeg p2 k = nI r
  unfold upd
  by_cases c : k = p0.toNatClampNeg
  · rw [if_pos c, if_pos c]
    exact ⟨⟨r1, g1, e1⟩, ⟨r2, g2, e2⟩⟩
  · rw [if_neg c, if_neg c]
    exact ⟨a, b⟩
theorem Rel_form (R : Rel n d dy ar fm po) {p0 : Int32} (hF : fGf p0 n = 0) (x : Int32) : Rel n d dy (va_up ar 7 (upd (ar 7) p0.toNatClampNeg x)) fm po := by
  obtain ⟨h1, ⟨h2, h3, h4, h5, h6⟩, h7⟩ := R
  have c : ¬ iw p0 0 (nI n - 1) = 0 := fun z => by simp [fGf, z] at hF
  have hl := iwh_lt (by omega) c
  refine ⟨h1, ⟨h2, h3, h4, fun j hj hj2 => ?_, h6⟩, h7⟩
  show upd (ar 7) p0.toNatClampNeg x j = -1 ∧ ar 8 j = -1
  unfold upd
  rw [if_neg (by omega)]
  exact h5 j hj hj2
theorem Rel_pass (R : Rel n d dy ar fm po) {p0 : Int32} (hF : fPs p0 dy = 0) : Rel n d (dy + p0) (va_up ar 8 (psS (ar 6) (ar 8) dy n)) fm po := by
  obtain ⟨⟨h0, h0d, t, ht, et⟩, ⟨h2, h3, h4, h5, h6⟩, h7⟩ := R
  have c1 : ¬ iw p0 1 2000 = 0 := fun z => by simp [fPs, z] at hF
  have c2 : dy + p0 ≤ 20000 := Classical.byContradiction (fun z => by simp [fPs, c1, z] at hF)
  obtain ⟨a1, a2⟩ := iw_no c1
  obtain ⟨r, hr, rfl⟩ := nI_of (x := p0) (fun z => a1 (Int32.lt_trans z (by decide)))
  have hr2 : r ≤ 2000 := Nat.le_of_not_lt (fun z => a2 (nI_lt (a := 2000) z hr))
  subst et
  rw [nI_add] at c2 ⊢
  have hs : t + r ≤ 20000 := (nI_leI (b := 20000) (by omega) (by decide)).mp c2
  refine ⟨⟨h0, h0d, t + r, hs, rfl⟩, ⟨h2, h3, h4, fun j hj hj2 => ?_, h6⟩, h7⟩
  show ar 7 j = -1 ∧ psS (ar 6) (ar 8) (nI t) n j = -1
  unfold psS
  rw [if_neg (by omega)]
  exact h5 j hj hj2
theorem Rel_parts (R : Rel n d dy ar fm po) {p0 p1 p2 : Int32} (hF : fSp p0 p1 p2 n (ar 4) = 0) : Rel n d dy (va_up ar 9 (upd (ar 9) (20 * p0.toNatClampNeg + p1.toNatClampNeg) p2)) fm po := by
  obtain ⟨h1, ⟨h2, h3, h4, h5, h6⟩, h7⟩ := R
  have c0 : ¬ iw p0 0 (nI n - 1) = 0 := fun z => by simp [fSp, z] at hF
  have c1 : ¬ iw p1 0 (nI n - 1) = 0 := fun z => by simp [fSp, z] at hF
  have c2 : ¬ iw p2 0 100 = 0 := fun z => by
    unfold fSp at hF
    rw [if_neg c0, if_neg c1] at hF
    by_cases a : ar 4 p0.toNatClampNeg = 2 <;> by_cases b : ar 4 p1.toNatClampNeg = 2 <;> simp [a, b, z] at hF
  have l0 := iwh_lt (by omega) c0
  have l1 := iwh_lt (by omega) c1
  obtain ⟨r, g, e⟩ := nI_ex (k := 100) (by decide) c2
  refine ⟨h1, ⟨h2, h3, fun i j hi hj => ?_, h5, h6⟩, h7⟩
  show ∃ q : Nat, q ≤ 100 ∧ upd (ar 9) (20 * p0.toNatClampNeg + p1.toNatClampNeg) p2 (20 * i + j) = nI q ∧ (n ≤ i ∨ n ≤ j → q = 0)
  unfold upd
  by_cases c : 20 * i + j = 20 * p0.toNatClampNeg + p1.toNatClampNeg
  · rw [if_pos c]
    exact ⟨r, g, e, fun z => by omega⟩
  · rw [if_neg c]
    exact h4 i j hi hj
theorem sumN_upd (s : Nat → Nat) (j v : Nat) (k : Nat) : sumN (va_up s j v) k + (if j < k then s j else 0) = sumN s k + (if j < k then v else 0) := by
  induction k with
  | zero => simp [sumN]
  | succ k ih =>
    show sumN (va_up s j v) k + va_up s j v k + _ = sumN s k + s k + _
    by_cases c : k = j
    · subst c
      rw [va_up_self, if_pos (by omega), if_pos (by omega)]
      rw [if_neg (by omega), if_neg (by omega)] at ih
      omega
    · rw [va_up_ne _ _ c]
      by_cases c2 : j < k
      · rw [if_pos c2, if_pos c2] at ih
        rw [if_pos (by omega), if_pos (by omega)]
        omega
      · rw [if_neg c2, if_neg c2] at ih
        rw [if_neg (by omega), if_neg (by omega)]
        omega
theorem Rel_shares (R : Rel n d dy ar fm po) {p0 p1 : Int32} (hF : fSs p0 p1 n (ar 6) = 0) : Rel n d dy (va_up ar 6 (upd (ar 6) p0.toNatClampNeg p1)) fm po := by
  obtain ⟨h1, ⟨h2, ⟨s, s1, s2, s3⟩, h4, h5, h6⟩, h7⟩ := R
  have c0 : ¬ iw p0 0 (nI n - 1) = 0 := fun z => by simp [fSs, z] at hF
  have c1 : ¬ iw p1 0 1000000 = 0 := fun z => by simp [fSs, c0, z] at hF
  have c2 : l_sum (ar 6) n - ar 6 p0.toNatClampNeg + p1 ≤ 1000000 := Classical.byContradiction (fun z => by simp [fSs, c0, c1, z] at hF)
  have l0 := iwh_lt (by omega) c0
  obtain ⟨r, g, rfl⟩ := nI_ex (k := 1000000) (by decide) c1
  have es : l_sum (ar 6) n = nI (sumN s n) := l_sum_N (fun i _ => s1 i)
  have u := sumN_upd s p0.toNatClampNeg r n
  have u0 := sumN_upd s p0.toNatClampNeg 0 n
  rw [if_pos l0, if_pos l0] at u u0
  rw [es, s1, pk_sub (by omega), nI_add] at c2
  have c3 := (nI_leI (b := 1000000) (by omega) (by decide)).mp c2
  refine ⟨h1, ⟨h2, ⟨va_up s p0.toNatClampNeg r, fun j => ?_, fun j hj => ?_, by omega⟩, h4, h5, h6⟩, h7⟩
  · show upd (ar 6) p0.toNatClampNeg (nI r) j = _
    unfold upd va_up
    by_cases c : j = p0.toNatClampNeg
    · rw [if_pos c, if_pos c]
    · rw [if_neg c, if_neg c, s1]
  · rw [va_up_ne _ _ (by omega)]
    exact s2 j hj
theorem Rel_holder (R : Rel n d dy ar fm po) {p0 p1 : Int32} (hF : fAh p0 p1 n = 0) : Rel (n + 1) d dy (va_up (va_up ar 4 (upd (ar 4) n p0)) 5 (upd (ar 5) n p1)) fm po := by
  obtain ⟨⟨h0, h0d, h0t⟩, ⟨h2, ⟨s, s1, s2, s3⟩, h4, h5, h6⟩, h7, h8, h9, h10⟩ := R
  have c20 : ¬ nI n = 20 := fun z => by
    unfold fAh at hF
    rw [if_pos z] at hF
    (repeat' split at hF) <;> exact absurd hF (by decide)
  have n20 : n < 20 := Nat.lt_of_le_of_ne h0 (fun z => c20 (by rw [z]; rfl))
  have ck : (p0 = 2 ∧ p1 = -1) ∨ (¬ p0 = 2 ∧ ¬ iw p1 0 5 = 0) := by
    unfold fAh at hF
    by_cases b : p0 = 2
    · refine Or.inl ⟨b, Classical.byContradiction (fun c => ?_)⟩
      by_cases a : iw p0 0 2 = 0
      · simp [a] at hF
      · rw [if_neg a, if_pos b, if_neg c] at hF
        exact absurd hF (by decide)
    · refine Or.inr ⟨b, fun c => ?_⟩
      by_cases a : iw p0 0 2 = 0
      · simp [a] at hF
      · rw [if_neg a, if_neg b, if_pos c] at hF
        exact absurd hF (by decide)
  refine ⟨⟨by omega, h0d, h0t⟩, ⟨fun j hj => ?_, ⟨s, s1, fun j hj => s2 j (by omega), ?_⟩, fun i j hi hj => ?_, fun j hj hj2 => h5 j (by omega) hj2, h6⟩, h7, h8, h9, fun D hD j hj => ?_⟩
  · show (upd (ar 4) n p0 j = 2 ∧ upd (ar 5) n p1 j = -1) ∨ (¬ upd (ar 4) n p0 j = 2 ∧ vp_in (upd (ar 5) n p1 j) 6)
    unfold upd
    by_cases c : j = n
    · rw [if_pos c, if_pos c]
      exact ck.imp id (fun z => ⟨z.1, iw_vp (k := 5) (by decide) z.2⟩)
    · rw [if_neg c, if_neg c]
      exact h2 j (by omega)
  · show sumN s n + s n ≤ 1000000
    rw [s2 n (Nat.le_refl n)]
    exact s3
  · obtain ⟨q, q1, q2, q3⟩ := h4 i j hi hj
    exact ⟨q, q1, q2, fun z => q3 (by omega)⟩
  · obtain ⟨y1, y2⟩ := h10 D hD j hj
    refine ⟨y1, fun hg => ?_⟩
    obtain ⟨g1, g2, g3, g4, g5, g6⟩ := y2 hg
    have e4 : upd (ar 4) n p0 j = ar 4 j := if_neg (by omega)
    have eT : ∀ v : Nat → Int32, TXA (n + 1) (va_up (va_up ar 4 (upd (ar 4) n p0)) 5 (upd (ar 5) n p1)) D j v = TXA n ar D j v := fun v => by
      show txG (upd (ar 4) n p0 j) (ar 12 (20 * D + j)) (ptF (ar 18) D j) (ar 15) (20 * D) (ar 16 (20 * D + j)) v j (n + 1) = _
      rw [e4]
      exact txG_n (Nat.le_succ n) (fun x h1 h2 => g2 x h1 (by omega))
    refine ⟨by omega, fun x hx hx2 => g2 x (by omega) hx2, fun fo v hv => ?_, fun v => ?_, g5, ?_⟩
    · rw [eT]
      exact g3 fo v hv
    · rw [eT]
      exact g4 v
    · rw [eT]
      exact g6
theorem mor_low {a b : Nat} (ha : a ≤ 2 ^ 29) (hb : b ≤ 2 ^ 29) : lowF (nI a) (nI b) = mor (nI a) (nI b) ∧ ∃ t : Nat, t ≤ 2 ^ 29 ∧ nI a - mor (nI a) (nI b) = nI t := by
  unfold lowF mor
  have e := pk_sub_toInt (a := a) (b := b) (by omega) (by omega)
  by_cases c : a ≤ b
  · rw [if_pos (nI_le c (by omega))]
    have e0 : nI a - 0 = nI a := by simp
    refine ⟨?_, a, ha, e0⟩
    by_cases c2 : nI a - nI b < 0
    · rw [if_pos c2]
    · rw [if_neg c2]
      have : a = b := by
        rw [Int32.lt_iff_toInt_lt, e] at c2
        have z : (0 : Int32).toInt = 0 := rfl
        omega
      subst this
      simp
  · have c3 : ¬ nI a ≤ nI b := fun z => c ((nI_leI (by omega) (by omega)).mp z)
    rw [if_neg c3]
    have c2 : ¬ nI a - nI b < 0 := by
      rw [Int32.lt_iff_toInt_lt, e]
      have z : (0 : Int32).toInt = 0 := rfl
      omega
    refine ⟨if_neg c2, b, hb, ?_⟩
    rw [pk_sub (by omega), pk_sub (by omega)]
    exact congrArg nI (by omega)
/-- tax goes back -/
theorem Rel_back (R : Rel n d dy ar fm po) {D j : Nat} (hD : D < d) (hj : j < 20) (hg : ¬ ar 12 (20 * D + j) = 0) {x : Nat} (hx : x ≤ 2 ^ 29) (e : Int32) (he : e = nI x) : Rel n d dy (va_up ar 13 (upd (ar 13) (20 * D + j) e)) fm po := by
  obtain ⟨h1, h2, h7, h8, h9, h10⟩ := R
  refine ⟨h1, h2, fun m hm hm2 => ?_, h8, h9, fun D2 hD2 j2 hj2 => ?_⟩
  · obtain ⟨a, b, c, w⟩ := h7 m hm hm2
    refine ⟨a, ?_, c, w⟩
    show upd (ar 13) (20 * D + j) e m = 0
    unfold upd
    rw [if_neg (by omega)]
    exact b
  · obtain ⟨y1, y2⟩ := h10 D2 hD2 j2 hj2
    have c12 : (va_up ar 13 (upd (ar 13) (20 * D + j) e)) 12 = ar 12 := rfl
    refine ⟨fun hg2 => ?_, fun hg2 => ?_⟩
    · obtain ⟨z1, z2⟩ := y1 hg2
      refine ⟨?_, z2⟩
      show upd (ar 13) (20 * D + j) e (20 * D2 + j2) = 0
      unfold upd
      rw [if_neg (fun z => hg (by rw [← z]; exact hg2))]
      exact z1
    · obtain ⟨g1, g2, g3, g4, g5, g6⟩ := y2 hg2
      refine ⟨g1, g2, g3, g4, ?_, g6⟩
      show ∃ t : Nat, t ≤ 2 ^ 29 ∧ upd (ar 13) (20 * D + j) e (20 * D2 + j2) = nI t
      unfold upd
      by_cases c : 20 * D2 + j2 = 20 * D + j
      · rw [if_pos c]
        exact ⟨x, hx, he⟩
      · rw [if_neg c]
        exact g5
end REL
