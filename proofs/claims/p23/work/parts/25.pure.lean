/-! ===== portions: what they are taxed at, in numbers ===== -/
/-! ===== portions' taxes are the reference's ===== -/
def sumN (p : Nat → Nat) : Nat → Nat
  | 0 => 0
  | k + 1 => sumN p k + p k
theorem sumN_le {p : Nat → Nat} {b : Nat} {k : Nat} (h : ∀ i, i < k → p i ≤ b) : sumN p k ≤ b * k := by
  induction k with
  | zero => exact Nat.le_refl _
  | succ k ih =>
    have h1 := ih (fun i hi => h i (by omega))
    have h2 := h k (by omega)
    show sumN p k + p k ≤ b * (k + 1)
    rw [Nat.mul_succ]
    omega
theorem sumN_mono (p : Nat → Nat) {i k : Nat} (h : i ≤ k) : sumN p i ≤ sumN p k := by
  induction k with
  | zero => rw [Nat.le_zero.mp h]; exact Nat.le_refl _
  | succ k ih =>
    by_cases c : i = k + 1
    · rw [c]; exact Nat.le_refl _
    · exact Nat.le_trans (ih (by omega)) (Nat.le_add_right _ _)
theorem sumN_zero {p : Nat → Nat} {i k : Nat} (h : i ≤ k) (hz : ∀ x, i ≤ x → x < k → p x = 0) : sumN p k = sumN p i := by
  induction k with
  | zero => rw [Nat.le_zero.mp h]
  | succ k ih =>
    by_cases c : i = k + 1
    · rw [c]
    · show sumN p k + p k = _
      rw [ih (by omega) (fun x h1 h2 => hz x h1 (by omega)), hz k (by omega) (by omega), Nat.add_zero]
theorem l_sum_N {F : Nat → Int32} {p : Nat → Nat} {k : Nat} (h : ∀ i, i < k → F i = nI (p i)) : l_sum F k = nI (sumN p k) := by
  induction k with
  | zero => rfl
  | succ k ih =>
    show l_sum F k + F k = _
    rw [ih (fun i hi => h i (by omega)), h k (by omega), nI_add]
    rfl
theorem tsum_app (L : List (Int32 × Int32 × Int32)) (x : Int32 × Int32 × Int32) (fo : Int32) {k : Nat} (hk : k ≤ L.length) : tsum (L ++ [x]) fo k = tsum L fo k := by
  induction k with
  | zero => rfl
  | succ k ih =>
    show tsum (L ++ [x]) fo k + pt3 ((L ++ [x]).getD k (0, 0, 0)) fo = tsum L fo k + pt3 (L.getD k (0, 0, 0)) fo
    rw [ih (by omega), getD_app, if_neg (by omega)]
theorem tall_app (L : List (Int32 × Int32 × Int32)) (x : Int32 × Int32 × Int32) (fo : Int32) : tall (L ++ [x]) fo = tall L fo + pt3 x fo := by
  show tsum (L ++ [x]) fo (L ++ [x]).length = _
  rw [List.length_append]
  show tsum (L ++ [x]) fo L.length + pt3 ((L ++ [x]).getD L.length (0, 0, 0)) fo = _
  rw [tsum_app L x fo (Nat.le_refl _), getD_app, if_pos rfl]
theorem pt3_N {e : Nat} (he : e < 2 ^ 31) (r ne fo : Int32) : pt3 (nI e, r, ne) fo = taxL (lN e) (if ne &&& fo = ne then r else 30) := by
  unfold pt3 pt_tax taxL
  rw [nI_l he]
theorem tall_one (e r ne fo : Int32) : tall [(e, r, ne)] fo = taxL e.toInt64 (if ne &&& fo = ne then r else 30) := by
  show (0 : Int32) + pt_tax e r ne fo = _
  rw [show (0 : Int32) + pt_tax e r ne fo = pt_tax e r ne fo by simp]
  rfl
section PTS
variable {A S : Nat} {p : Nat → Nat} {F : Nat → Int32}
theorem prp_N (hA : A ≤ 2 ^ 30) (hS0 : 0 < S) (hS : S ≤ 2000) {k : Nat} (hF : F k = nI (p k)) (hp : p k ≤ 100) : prp (nI A) (F k) (nI S) = nI (A * p k / S) := by
  unfold prp
  have h1 : A * p k ≤ 2 ^ 30 * 100 := Nat.mul_le_mul hA hp
  rw [if_pos (fun z => by have := (nI_eq (a := S) (b := 0) (by omega) (by decide)).mp z; omega), hF, nI_l (by omega), nI_l (by omega), nI_l (by omega), lN_mul, pk_lDiv (by omega) hS0 (by omega), lN_i]
theorem xs_le (S A : Nat) (p : Nat → Nat) (k : Nat) : S * sumN (fun i => A * p i / S) k ≤ A * sumN p k := by
  induction k with
  | zero => simp [sumN]
  | succ k ih =>
    show S * (sumN (fun i => A * p i / S) k + A * p k / S) ≤ A * (sumN p k + p k)
    rw [Nat.mul_add, Nat.mul_add]
    have := Nat.mul_div_le (A * p k) S
    omega
theorem xs_A (hS0 : 0 < S) (hS : S = sumN p 20) {k : Nat} (hk : k ≤ 20) : sumN (fun i => A * p i / S) k ≤ A := by
  have h1 := xs_le S A p 20
  rw [← hS, Nat.mul_comm A S] at h1
  exact Nat.le_trans (sumN_mono _ hk) (Nat.le_of_mul_le_mul_left h1 hS0)
theorem lfD_N (hA : A ≤ 2 ^ 30) (hS0 : 0 < S) (hS : S ≤ 2000) (hSs : S = sumN p 20) (hF : ∀ k, k < 20 → F k = nI (p k)) (hp : ∀ k, k < 20 → p k ≤ 100) {k : Nat} (hk : k ≤ 20) : lfD (nI A) F (nI S) k = nI (A - sumN (fun i => A * p i / S) k) := by
  induction k with
  | zero => rfl
  | succ k ih =>
    show lfD (nI A) F (nI S) k - prp (nI A) (F k) (nI S) = _
    have h1 := xs_A (A := A) hS0 hSs hk
    have e : sumN (fun i => A * p i / S) (k + 1) = sumN (fun i => A * p i / S) k + A * p k / S := rfl
    rw [ih (by omega), prp_N hA hS0 hS (hF k (by omega)) (hp k (by omega)), pk_sub (by omega), e]
    exact congrArg nI (by omega)
theorem Fpos {k : Nat} (hF : F k = nI (p k)) (hp : p k ≤ 100) : F k ≤ 0 ↔ p k = 0 := by
  rw [hF, show (0 : Int32) = nI 0 from rfl, nI_leI (by omega) (by decide)]
  omega
theorem adR_N {n : Nat} (hn : n ≤ 20) (hF : ∀ k, k < 20 → F k = nI (p k)) (hp : ∀ k, k < 20 → p k ≤ 100) {k : Nat} (hk : k ≤ n) : ((∀ x, x < k → p x = 0) → adR (nI A) F (nI S) n k = lfD (nI A) F (nI S) n) ∧ ((¬ ∀ x, x < k → p x = 0) → adR (nI A) F (nI S) n k = 0) := by
  induction k with
  | zero => exact ⟨fun _ => rfl, fun z => absurd (fun x hx => absurd hx (Nat.not_lt_zero x)) z⟩
  | succ k ih =>
    have f := Fpos (F := F) (p := p) (k := k) (hF _ (by omega)) (hp _ (by omega))
    obtain ⟨i1, i2⟩ := ih (by omega)
    refine ⟨fun z => ?_, fun z => ?_⟩
    · have e : adR (nI A) F (nI S) n (k + 1) = adR (nI A) F (nI S) n k := if_pos (f.mpr (z k (by omega)))
      rw [e]
      exact i1 (fun x hx => z x (by omega))
    · by_cases c : F k ≤ 0
      · have e : adR (nI A) F (nI S) n (k + 1) = adR (nI A) F (nI S) n k := if_pos c
        rw [e]
        refine i2 (fun w => z (fun x hx => ?_))
        by_cases cx : x = k
        · rw [cx]; exact f.mp c
        · exact w x (by omega)
      · exact if_neg c
end PTS
theorem sumN_upd (s : Nat → Nat) (j v : Nat) (k : Nat) : sumN (va_up s j v) k + (if j < k then s j else 0) = sumN s k + (if j < k then v else 0) := by
  induction k with
  | zero => simp [sumN]
  | succ k ih =>
    show sumN (va_up s j v) k + va_up s j v k + _ = sumN s k + s k + _
    by_cases c : k = j
    · subst c
      rw [va_up_self, if_pos (by omega), if_pos (by omega)]
      rw [if_neg (by omega), if_neg (by omega)] at ih
      omega
    · rw [va_up_ne _ _ c]
      by_cases c2 : j < k
      · rw [if_pos c2, if_pos c2] at ih
        rw [if_pos (by omega), if_pos (by omega)]
        omega
      · rw [if_neg c2, if_neg c2] at ih
        rw [if_neg (by omega), if_neg (by omega)]
        omega
theorem sumN_cg {p q : Nat → Nat} {k : Nat} (h : ∀ i, i < k → p i = q i) : sumN p k = sumN q k := by
  induction k with
  | zero => rfl
  | succ k ih =>
    show sumN p k + p k = sumN q k + q k
    rw [ih (fun i hi => h i (by omega)), h k (by omega)]
theorem sumN_up_hi (p : Nat → Nat) (v : Nat) (k : Nat) : sumN (va_up p k v) k = sumN p k := sumN_cg (fun i hi => va_up_ne _ _ (by omega))
/-- portions of an amount A: each an amount and a rate, the amounts add up -/
def PG (L : List (Int32 × Int32 × Int32)) (A : Nat) : Prop := ∃ a r : Nat → Nat, (∀ k, k < L.length → (L.getD k (0, 0, 0)).1 = nI (a k) ∧ (L.getD k (0, 0, 0)).2.1 = nI (r k) ∧ r k ≤ 30) ∧ sumN a L.length = A
def PM (P : Int32 × Int32 × Int32 → Prop) (L : List (Int32 × Int32 × Int32)) : Prop := ∀ k, k < L.length → P (L.getD k (0, 0, 0))
theorem PG_nil : PG [] 0 := ⟨fun _ => 0, fun _ => 0, fun k hk => absurd hk (Nat.not_lt_zero k), rfl⟩
theorem PM_nil (P : Int32 × Int32 × Int32 → Prop) : PM P [] := fun k hk => absurd hk (Nat.not_lt_zero k)
theorem PG_snoc {L : List (Int32 × Int32 × Int32)} {A e q : Nat} (h : PG L A) (m : Int32) (hq : q ≤ 30) : PG (L ++ [(nI e, nI q, m)]) (A + e) := by
  obtain ⟨a, r, h1, h2⟩ := h
  refine ⟨va_up a L.length e, va_up r L.length q, fun k hk => ?_, ?_⟩
  · rw [getD_app]
    by_cases c : k = L.length
    · subst c
      rw [if_pos rfl, va_up_self, va_up_self]
      exact ⟨rfl, rfl, hq⟩
    · rw [if_neg c, va_up_ne _ _ c, va_up_ne _ _ c]
      rw [List.length_append] at hk
      have : [(nI e, nI q, m)].length = 1 := rfl
      exact h1 k (by omega)
  · rw [List.length_append]
    show sumN (va_up a L.length e) L.length + va_up a L.length e L.length = _
    rw [sumN_up_hi, va_up_self, h2]
theorem PM_snoc {P : Int32 × Int32 × Int32 → Prop} {L : List (Int32 × Int32 × Int32)} {x : Int32 × Int32 × Int32} (h : PM P L) (hx : P x) : PM P (L ++ [x]) := fun k hk => by
  rw [getD_app]
  by_cases c : k = L.length
  · rw [if_pos c]; exact hx
  · rw [if_neg c]
    rw [List.length_append] at hk
    have : [x].length = 1 := rfl
    exact h k (by omega)
theorem PG_one {e q : Nat} (m : Int32) (hq : q ≤ 30) : PG [(nI e, nI q, m)] e := by
  have h := PG_snoc (e := e) PG_nil m hq
  rw [Nat.zero_add] at h
  exact h
theorem taxL_N {a r : Nat} (ha : a ≤ 2 ^ 30) (hr : r ≤ 30) : taxL (lN a) (nI r) = nI (a * r / 100) := by
  unfold taxL
  have h1 : a * r ≤ 2 ^ 30 * 30 := Nat.mul_le_mul ha hr
  rw [nI_l (by omega), lN_mul, show (100 : Int64) = lN 100 from rfl, pk_lDiv (by omega) (by decide) (by decide), lN_i]
/-- the tax of portions, as a number -/
theorem tsum_N {L : List (Int32 × Int32 × Int32)} {a r : Nat → Nat} (fo : Int32) (h1 : ∀ k, k < L.length → (L.getD k (0, 0, 0)).1 = nI (a k) ∧ (L.getD k (0, 0, 0)).2.1 = nI (r k) ∧ r k ≤ 30) (hA : ∀ k, k < L.length → a k ≤ 2 ^ 30) :
    ∀ k, k ≤ L.length → tsum L fo k = nI (sumN (fun i => a i * (if (L.getD i (0, 0, 0)).2.2 &&& fo = (L.getD i (0, 0, 0)).2.2 then r i else 30) / 100) k) := by
  intro k
  induction k with
  | zero => intro _; rfl
  | succ k ih =>
    intro hk
    obtain ⟨e1, e2, e3⟩ := h1 k (by omega)
    have ha := hA k (by omega)
    have e : pt3 (L.getD k (0, 0, 0)) fo = taxL (lN (a k)) (if (L.getD k (0, 0, 0)).2.2 &&& fo = (L.getD k (0, 0, 0)).2.2 then (L.getD k (0, 0, 0)).2.1 else 30) := by
      unfold pt3 pt_tax taxL
      rw [e1, nI_l (by omega)]
    show tsum L fo k + pt3 (L.getD k (0, 0, 0)) fo = nI (sumN _ k + _)
    rw [ih (by omega), e, e2, ← nI_add]
    refine congrArg (fun z => nI (sumN _ k) + z) ?_
    show _ = nI (a k * (if (L.getD k (0, 0, 0)).2.2 &&& fo = (L.getD k (0, 0, 0)).2.2 then r k else 30) / 100)
    by_cases c : (L.getD k (0, 0, 0)).2.2 &&& fo = (L.getD k (0, 0, 0)).2.2
    · rw [if_pos c, if_pos c]
      exact taxL_N ha e3
    · rw [if_neg c, if_neg c]
      exact taxL_N ha (Nat.le_refl 30)
theorem sumN_le2 {p q : Nat → Nat} {k : Nat} (h : ∀ i, i < k → p i ≤ q i) : sumN p k ≤ sumN q k := by
  induction k with
  | zero => exact Nat.le_refl _
  | succ k ih =>
    show sumN p k + p k ≤ sumN q k + q k
    have h1 := ih (fun i hi => h i (by omega))
    have h2 := h k (by omega)
    omega
theorem sumN_at (p : Nat → Nat) {i k : Nat} (h : i < k) : p i ≤ sumN p k := by
  have h1 := sumN_mono p (i := i + 1) (k := k) h
  have h2 : sumN p (i + 1) = sumN p i + p i := rfl
  omega
theorem tax30 (a : Nat → Nat) (k : Nat) : sumN (fun i => a i * 30 / 100) k * 100 ≤ sumN a k * 30 ∧ sumN a k * 30 ≤ sumN (fun i => a i * 30 / 100) k * 100 + 99 * k := by
  induction k with
  | zero => exact ⟨Nat.le_refl _, Nat.le_refl _⟩
  | succ k ih =>
    obtain ⟨h1, h2⟩ := ih
    have e1 : sumN (fun i => a i * 30 / 100) (k + 1) = sumN (fun i => a i * 30 / 100) k + a k * 30 / 100 := rfl
    have e2 : sumN a (k + 1) = sumN a k + a k := rfl
    rw [e1, e2]
    omega
/-- due at most any tax, any tax at most the full rate's -/
theorem PG_tax {L : List (Int32 × Int32 × Int32)} {A : Nat} (h : PG L A) (hA : A ≤ 1000000000) (fo : Int32) : ∃ T D : Nat, tall L fo = nI T ∧ tall L (-1) = nI D ∧ D ≤ T ∧ T ≤ A * 30 / 100 := by
  obtain ⟨a, r, h1, h2⟩ := h
  have ha : ∀ k, k < L.length → a k ≤ 2 ^ 30 := fun k hk => by
    have := sumN_at a hk
    omega
  have m1 : ∀ x : Int32, x &&& (-1) = x := fun x => by
    apply Int32.toBitVec_inj.mp
    apply BitVec.eq_of_getLsbD_eq
    intro i hi
    rw [Int32.toBitVec_and, BitVec.getLsbD_and, show (-1 : Int32).toBitVec.getLsbD i = true from (show ∀ i, i < 32 → (-1 : Int32).toBitVec.getLsbD i = true by decide +kernel) i hi, Bool.and_true]
  refine ⟨_, _, tsum_N fo h1 ha L.length (Nat.le_refl _), tsum_N (-1) h1 ha L.length (Nat.le_refl _), sumN_le2 (fun i hi => ?_), ?_⟩
  · rw [if_pos (m1 _)]
    have h3 := (h1 i hi).2.2
    apply Nat.div_le_div_right
    apply Nat.mul_le_mul_left
    split
    · exact Nat.le_refl _
    · exact h3
  · have h3 := tax30 a L.length
    have h4 : sumN (fun i => a i * (if (L.getD i (0, 0, 0)).2.2 &&& fo = (L.getD i (0, 0, 0)).2.2 then r i else 30) / 100) L.length ≤ sumN (fun i => a i * 30 / 100) L.length := sumN_le2 (fun i hi => by
      have h3 := (h1 i hi).2.2
      apply Nat.div_le_div_right
      apply Nat.mul_le_mul_left
      split
      · exact h3
      · exact Nat.le_refl _)
    rw [h2] at h3
    omega
/-- where no portion's own rate counts, rounding alone is lost -/
theorem PG_full {L : List (Int32 × Int32 × Int32)} {A : Nat} (h : PG L A) (hA : A ≤ 1000000000) (hL : L.length ≤ 20) {fo : Int32} (hm : PM (fun x => x.2.2 &&& fo = x.2.2 → x.2.1 = 30) L) : ∃ T : Nat, tall L fo = nI T ∧ A * 30 / 100 < T + 20 ∧ T ≤ A * 30 / 100 := by
  obtain ⟨a, r, h1, h2⟩ := h
  have ha : ∀ k, k < L.length → a k ≤ 2 ^ 30 := fun k hk => by
    have := sumN_at a hk
    omega
  have e : sumN (fun i => a i * (if (L.getD i (0, 0, 0)).2.2 &&& fo = (L.getD i (0, 0, 0)).2.2 then r i else 30) / 100) L.length = sumN (fun i => a i * 30 / 100) L.length := sumN_cg (fun i hi => by
    by_cases c : (L.getD i (0, 0, 0)).2.2 &&& fo = (L.getD i (0, 0, 0)).2.2
    · rw [if_pos c]
      have e2 := (hm i hi c).symm.trans (h1 i hi).2.1
      have h3 := (h1 i hi).2.2
      have e3 : 30 = r i := (nI_eq (a := 30) (by decide) (by omega)).mp e2
      rw [← e3]
    · rw [if_neg c])
  have h3 := tax30 a L.length
  rw [h2] at h3
  refine ⟨_, tsum_N fo h1 ha L.length (Nat.le_refl _), ?_, ?_⟩
  · rw [e]; omega
  · rw [e]; omega
/-- what a partnership's portions add up to -/
theorem adL_PG {A S n : Nat} {p : Nat → Nat} {F : Nat → Int32} (hA9 : A ≤ 1000000000) (hSs : S = sumN p 20) (hS0 : 0 < S) (hn : n ≤ 20) (hF : ∀ k, k < 20 → F k = nI (p k)) (hp : ∀ k, k < 20 → p k ≤ 100) (hpn : ∀ k, n ≤ k → k < 20 → p k = 0) (ge ld : Nat → Int32) (j : Nat) (hr : ∀ k, k < n → ∃ q : Nat, q ≤ 30 ∧ rD ge (ld k) = nI q) :
    PG (adL (nI A) F (nI S) n ge ld j n) A := by
  have hA : A ≤ 2 ^ 30 := by omega
  have hS : S ≤ 2000 := by rw [hSs]; exact sumN_le hp
  have step : ∀ k, k ≤ n → PG (adL (nI A) F (nI S) n ge ld j k) (sumN (fun i => A * p i / S) k + (if ∀ x, x < k → p x = 0 then 0 else A - sumN (fun i => A * p i / S) n)) := by
    intro k
    induction k with
    | zero =>
      intro _
      rw [if_pos (fun x hx => absurd hx (Nat.not_lt_zero x))]
      exact PG_nil
    | succ k ih =>
      intro hk
      have ih := ih (by omega)
      have f := Fpos (F := F) (p := p) (k := k) (hF _ (by omega)) (hp _ (by omega))
      show PG (if F k ≤ 0 then adL (nI A) F (nI S) n ge ld j k else adL (nI A) F (nI S) n ge ld j k ++ [(prp (nI A) (F k) (nI S) + adR (nI A) F (nI S) n k, rD ge (ld k), foB j ||| foB k)]) (sumN (fun i => A * p i / S) k + A * p k / S + _)
      by_cases c : p k = 0
      · rw [if_pos (f.mpr c), c, Nat.mul_zero, Nat.zero_div, Nat.add_zero]
        have e : (∀ x, x < k + 1 → p x = 0) ↔ ∀ x, x < k → p x = 0 := ⟨fun z x hx => z x (by omega), fun z x hx => by
          by_cases cx : x = k
          · rw [cx]; exact c
          · exact z x (by omega)⟩
        by_cases z : ∀ x, x < k → p x = 0
        · rw [if_pos z] at ih
          rw [if_pos (e.mpr z)]
          exact ih
        · rw [if_neg z] at ih
          rw [if_neg (fun w => z (e.mp w))]
          exact ih
      · rw [if_neg (fun z => c (f.mp z)), if_neg (fun z => c (z k (by omega)))]
        obtain ⟨q, hq, eq⟩ := hr k (by omega)
        obtain ⟨a1, a2⟩ := adR_N (A := A) (S := S) hn hF hp (show k ≤ n by omega)
        rw [prp_N hA hS0 hS (hF k (by omega)) (hp k (by omega)), eq]
        by_cases z : ∀ x, x < k → p x = 0
        · rw [if_pos z] at ih
          rw [a1 z, lfD_N hA hS0 hS hSs hF hp hn, nI_add]
          have w := PG_snoc (e := A * p k / S + (A - sumN (fun i => A * p i / S) n)) ih (foB j ||| foB k) hq
          have e : sumN (fun i => A * p i / S) k + 0 + (A * p k / S + (A - sumN (fun i => A * p i / S) n)) = sumN (fun i => A * p i / S) k + A * p k / S + (A - sumN (fun i => A * p i / S) n) := by omega
          rw [e] at w
          exact w
        · rw [if_neg z] at ih
          rw [a2 z, show nI (A * p k / S) + 0 = nI (A * p k / S) by simp]
          have w := PG_snoc (e := A * p k / S) ih (foB j ||| foB k) hq
          have e : sumN (fun i => A * p i / S) k + (A - sumN (fun i => A * p i / S) n) + A * p k / S = sumN (fun i => A * p i / S) k + A * p k / S + (A - sumN (fun i => A * p i / S) n) := by omega
          rw [e] at w
          exact w
  have h := step n (Nat.le_refl n)
  rw [if_neg (fun z => by
    have e : sumN p 20 = sumN p 0 := sumN_zero (Nat.zero_le 20) (fun x _ h2 => by
      by_cases c : x < n
      · exact z x c
      · exact hpn x (by omega) h2)
    rw [e] at hSs
    have : sumN p 0 = 0 := rfl
    omega)] at h
  have hx := xs_A (A := A) (k := n) hS0 hSs hn
  have e : sumN (fun i => A * p i / S) n + (A - sumN (fun i => A * p i / S) n) = A := by omega
  rw [e] at h
  exact h
theorem adL_PM {P : Int32 × Int32 × Int32 → Prop} (am : Int32) (F : Nat → Int32) (al : Int32) (n : Nat) (ge ld : Nat → Int32) (j : Nat) (h : ∀ (e q : Int32) (k : Nat), k < n → P (e, q, foB j ||| foB k)) : ∀ k, k ≤ n → PM P (adL am F al n ge ld j k) := by
  intro k
  induction k with
  | zero => intro _; exact PM_nil P
  | succ k ih =>
    intro hk
    show PM P (if F k ≤ 0 then adL am F al n ge ld j k else adL am F al n ge ld j k ++ [(prp am (F k) al + adR am F al n k, rD ge (ld k), foB j ||| foB k)])
    by_cases c : F k ≤ 0
    · rw [if_pos c]
      exact ih (by omega)
    · rw [if_neg c]
      exact PM_snoc (ih (by omega)) (h _ _ k (by omega))
/-- the portions made on a pay day -/
theorem mkP_PG {dy : Int32} {n : Nat} {ar : Nat → Nat → Int32} {j A : Nat} {p : Nat → Nat} (hA : A ≤ 1000000000) (hn : n ≤ 20) (hF : ∀ k, k < 20 → prow (ar 9) j k = nI (p k)) (hp : ∀ k, k < 20 → p k ≤ 100) (hpn : ∀ k, n ≤ k → k < 20 → p k = 0)
    (hr : ∀ k, k < n → ∃ q : Nat, q ≤ 30 ∧ rD (ar 1) (ar 5 k) = nI q) (ho : ¬ ar 4 j = 2 → ∃ q : Nat, q ≤ 30 ∧ ownF (rD (ar 1) (ar 5 j)) (rD (ar 2) (ar 5 j)) (hlg (ar 4 j) (ar 6 j) (ar 8 j) dy) = nI q) : PG (mkP dy n ar j (nI A)) A := by
  unfold mkP
  by_cases c : ar 4 j = 2
  · rw [if_pos c]
    unfold addP
    rw [l_sum_N hF]
    by_cases c0 : nI (sumN p 20) = 0
    · rw [if_pos c0]
      exact PG_one 0 (Nat.le_refl 30)
    · have h0 : 0 < sumN p 20 := Nat.pos_of_ne_zero (fun z => c0 (by rw [z]; rfl))
      rw [if_neg c0]
      exact adL_PG hA rfl h0 hn hF hp hpn _ _ _ hr
  · rw [if_neg c]
    obtain ⟨q, hq, e⟩ := ho c
    rw [e]
    exact PG_one _ hq
/-- a partnership's portions want its own form, or are taxed in full -/
theorem mkP_PM {dy : Int32} {n : Nat} {ar : Nat → Nat → Int32} {j : Nat} {am fo : Int32} (c : ar 4 j = 2) (h : ∀ k, k < n → ¬ (foB j ||| foB k) &&& fo = foB j ||| foB k) : PM (fun x => x.2.2 &&& fo = x.2.2 → x.2.1 = 30) (mkP dy n ar j am) := by
  unfold mkP
  rw [if_pos c]
  unfold addP
  split
  · exact PM_snoc (L := []) (PM_nil _) (fun _ => rfl)
  · exact adL_PM _ _ _ _ _ _ _ (fun e q k hk z => absurd z (h k hk)) n (Nat.le_refl n)
