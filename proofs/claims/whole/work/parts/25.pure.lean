/-! ===== portions' taxes are the reference's ===== -/
def sumN (p : Nat → Nat) : Nat → Nat
  | 0 => 0
  | k + 1 => sumN p k + p k
theorem sumN_le {p : Nat → Nat} {b : Nat} {k : Nat} (h : ∀ i, i < k → p i ≤ b) : sumN p k ≤ b * k := by
  induction k with
  | zero => exact Nat.le_refl _
  | succ k ih =>
    have h1 := ih (fun i hi => h i (by omega))
    have h2 := h k (by omega)
    show sumN p k + p k ≤ b * (k + 1)
    rw [Nat.mul_succ]
    omega
theorem sumN_mono (p : Nat → Nat) {i k : Nat} (h : i ≤ k) : sumN p i ≤ sumN p k := by
  induction k with
  | zero => rw [Nat.le_zero.mp h]; exact Nat.le_refl _
  | succ k ih =>
    by_cases c : i = k + 1
    · rw [c]; exact Nat.le_refl _
    · exact Nat.le_trans (ih (by omega)) (Nat.le_add_right _ _)
theorem sumN_zero {p : Nat → Nat} {i k : Nat} (h : i ≤ k) (hz : ∀ x, i ≤ x → x < k → p x = 0) : sumN p k = sumN p i := by
  induction k with
  | zero => rw [Nat.le_zero.mp h]
  | succ k ih =>
    by_cases c : i = k + 1
    · rw [c]
    · show sumN p k + p k = _
      rw [ih (by omega) (fun x h1 h2 => hz x h1 (by omega)), hz k (by omega) (by omega), Nat.add_zero]
theorem l_sum_N {F : Nat → Int32} {p : Nat → Nat} {k : Nat} (h : ∀ i, i < k → F i = nI (p i)) : l_sum F k = nI (sumN p k) := by
  induction k with
  | zero => rfl
  | succ k ih =>
    show l_sum F k + F k = _
    rw [ih (fun i hi => h i (by omega)), h k (by omega), nI_add]
    rfl
theorem dsum_N {F : Nat → Int32} {p : Nat → Nat} (h : ∀ i, i < 20 → F i = nI (p i)) : dsum F 20 = nI (sumN p 20) := by
  have e : dsum F 20 = nI (0 + p 19 + p 18 + p 17 + p 16 + p 15 + p 14 + p 13 + p 12 + p 11 + p 10 + p 9 + p 8 + p 7 + p 6 + p 5 + p 4 + p 3 + p 2 + p 1 + p 0) := by
    simp only [dsum, h 19 (by decide), h 18 (by decide), h 17 (by decide), h 16 (by decide), h 15 (by decide), h 14 (by decide), h 13 (by decide), h 12 (by decide), h 11 (by decide), h 10 (by decide), h 9 (by decide), h 8 (by decide), h 7 (by decide), h 6 (by decide), h 5 (by decide), h 4 (by decide), h 3 (by decide), h 2 (by decide), h 1 (by decide), h 0 (by decide)]
    simp only [show (0 : Int32) = nI 0 from rfl, nI_add]
  rw [e]
  simp only [sumN]
  exact congrArg nI (by omega)
theorem tsum_app (L : List (Int32 × Int32 × Int32)) (x : Int32 × Int32 × Int32) (fo : Int32) {k : Nat} (hk : k ≤ L.length) : tsum (L ++ [x]) fo k = tsum L fo k := by
  induction k with
  | zero => rfl
  | succ k ih =>
    show tsum (L ++ [x]) fo k + pt3 ((L ++ [x]).getD k (0, 0, 0)) fo = tsum L fo k + pt3 (L.getD k (0, 0, 0)) fo
    rw [ih (by omega), getD_app, if_neg (by omega)]
theorem tall_app (L : List (Int32 × Int32 × Int32)) (x : Int32 × Int32 × Int32) (fo : Int32) : tall (L ++ [x]) fo = tall L fo + pt3 x fo := by
  show tsum (L ++ [x]) fo (L ++ [x]).length = _
  rw [List.length_append]
  show tsum (L ++ [x]) fo L.length + pt3 ((L ++ [x]).getD L.length (0, 0, 0)) fo = _
  rw [tsum_app L x fo (Nat.le_refl _), getD_app, if_pos rfl]
theorem pt3_N {e : Nat} (he : e < 2 ^ 31) (r ne fo : Int32) : pt3 (nI e, r, ne) fo = taxL (lN e) (if ne &&& fo = ne then r else 30) := by
  unfold pt3 pt_tax taxL
  rw [nI_l he]
theorem tall_one (e r ne fo : Int32) : tall [(e, r, ne)] fo = taxL e.toInt64 (if ne &&& fo = ne then r else 30) := by
  show (0 : Int32) + pt_tax e r ne fo = _
  rw [show (0 : Int32) + pt_tax e r ne fo = pt_tax e r ne fo by simp]
  rfl
section PTS
variable {A S : Nat} {p : Nat → Nat} {F : Nat → Int32}
theorem shr_N (hA : A ≤ 2 ^ 30) (hS0 : 0 < S) (hS : S ≤ 2000) {k : Nat} (hF : F k = nI (p k)) (hp : p k ≤ 100) : shr (lN A) F (nI S) k = lN (A * p k / S) := by
  unfold shr
  have h1 : A * p k ≤ 2 ^ 30 * 100 := Nat.mul_le_mul hA hp
  rw [hF, nI_l (by omega), nI_l (by omega), lN_mul, pk_lDiv (by omega) hS0 (by omega)]
theorem prp_N (hA : A ≤ 2 ^ 30) (hS0 : 0 < S) (hS : S ≤ 2000) {k : Nat} (hF : F k = nI (p k)) (hp : p k ≤ 100) : prp (nI A) (F k) (nI S) = nI (A * p k / S) := by
  unfold prp
  have h1 : A * p k ≤ 2 ^ 30 * 100 := Nat.mul_le_mul hA hp
  rw [if_pos (fun z => by have := (nI_eq (a := S) (b := 0) (by omega) (by decide)).mp z; omega), hF, nI_l (by omega), nI_l (by omega), nI_l (by omega), lN_mul, pk_lDiv (by omega) hS0 (by omega), lN_i]
theorem xs_le (S A : Nat) (p : Nat → Nat) (k : Nat) : S * sumN (fun i => A * p i / S) k ≤ A * sumN p k := by
  induction k with
  | zero => simp [sumN]
  | succ k ih =>
    show S * (sumN (fun i => A * p i / S) k + A * p k / S) ≤ A * (sumN p k + p k)
    rw [Nat.mul_add, Nat.mul_add]
    have := Nat.mul_div_le (A * p k) S
    omega
theorem xs_A (hS0 : 0 < S) (hS : S = sumN p 20) {k : Nat} (hk : k ≤ 20) : sumN (fun i => A * p i / S) k ≤ A := by
  have h1 := xs_le S A p 20
  rw [← hS, Nat.mul_comm A S] at h1
  exact Nat.le_trans (sumN_mono _ hk) (Nat.le_of_mul_le_mul_left h1 hS0)
theorem lft_N (hA : A ≤ 2 ^ 30) (hS0 : 0 < S) (hS : S ≤ 2000) (hSs : S = sumN p 20) (hF : ∀ k, k < 20 → F k = nI (p k)) (hp : ∀ k, k < 20 → p k ≤ 100) {k : Nat} (hk : k ≤ 20) : lft (lN A) F (nI S) k = lN (A - sumN (fun i => A * p i / S) k) := by
  induction k with
  | zero => rfl
  | succ k ih =>
    show lft (lN A) F (nI S) k - shr (lN A) F (nI S) k = _
    have h1 := xs_A (A := A) hS0 hSs hk
    have e : sumN (fun i => A * p i / S) (k + 1) = sumN (fun i => A * p i / S) k + A * p k / S := rfl
    rw [ih (by omega), shr_N hA hS0 hS (hF k (by omega)) (hp k (by omega)), lN_sub (by omega), e]
    exact congrArg lN (by omega)
theorem lfD_N (hA : A ≤ 2 ^ 30) (hS0 : 0 < S) (hS : S ≤ 2000) (hSs : S = sumN p 20) (hF : ∀ k, k < 20 → F k = nI (p k)) (hp : ∀ k, k < 20 → p k ≤ 100) {k : Nat} (hk : k ≤ 20) : lfD (nI A) F (nI S) k = nI (A - sumN (fun i => A * p i / S) k) := by
  induction k with
  | zero => rfl
  | succ k ih =>
    show lfD (nI A) F (nI S) k - prp (nI A) (F k) (nI S) = _
    have h1 := xs_A (A := A) hS0 hSs hk
    have e : sumN (fun i => A * p i / S) (k + 1) = sumN (fun i => A * p i / S) k + A * p k / S := rfl
    rw [ih (by omega), prp_N hA hS0 hS (hF k (by omega)) (hp k (by omega)), pk_sub (by omega), e]
    exact congrArg nI (by omega)
theorem Fpos {k : Nat} (hF : F k = nI (p k)) (hp : p k ≤ 100) : F k ≤ 0 ↔ p k = 0 := by
  rw [hF, show (0 : Int32) = nI 0 from rfl, nI_leI (by omega) (by decide)]
  omega
theorem low_N (hF : ∀ k, k < 20 → F k = nI (p k)) (hp : ∀ k, k < 20 → p k ≤ 100) {i : Nat} (hi : i ≤ 20) : (∃ k, 20 - i ≤ k ∧ k < 20 ∧ ¬ p k = 0 ∧ (∀ x, 20 - i ≤ x → x < k → p x = 0) ∧ low F i = nI k) ∨ ((∀ x, 20 - i ≤ x → x < 20 → p x = 0) ∧ low F i = -1) := by
  induction i with
  | zero => exact Or.inr ⟨fun x h1 h2 => by omega, rfl⟩
  | succ i ih =>
    have f := Fpos (F := F) (p := p) (k := 19 - i) (hF _ (by omega)) (hp _ (by omega))
    by_cases c : F (19 - i) ≤ 0
    · have c0 := f.mp c
      have e : low F (i + 1) = low F i := if_pos c
      rw [e]
      rcases ih (by omega) with ⟨k, h1, h2, h3, h4, h5⟩ | ⟨h4, h5⟩
      · exact Or.inl ⟨k, by omega, h2, h3, fun x a b => by
          by_cases cx : x = 19 - i
          · rw [cx]; exact c0
          · exact h4 x (by omega) b, h5⟩
      · exact Or.inr ⟨fun x a b => by
          by_cases cx : x = 19 - i
          · rw [cx]; exact c0
          · exact h4 x (by omega) b, h5⟩
    · have e : low F (i + 1) = nI (19 - i) := if_neg c
      rw [e]
      exact Or.inl ⟨19 - i, by omega, by omega, fun z => c (f.mpr z), fun x a b => by omega, rfl⟩
theorem low_iff (hF : ∀ k, k < 20 → F k = nI (p k)) (hp : ∀ k, k < 20 → p k ≤ 100) {k : Nat} (hk : k < 20) (h0 : ¬ p k = 0) : nI k = low F 20 ↔ ∀ x, x < k → p x = 0 := by
  rcases low_N hF hp (Nat.le_refl 20) with ⟨q, h1, h2, h3, h4, h5⟩ | ⟨h4, h5⟩
  · rw [h5, nI_eq (by omega) (by omega)]
    constructor
    · intro e x hx
      subst e
      exact h4 x (by omega) hx
    · intro h
      rcases Nat.lt_trichotomy k q with c | c | c
      · exact absurd (h4 k (by omega) c) h0
      · exact c
      · exact absurd (h q c) h3
  · exact absurd (h4 k (by omega) hk) h0
theorem adR_N {n : Nat} (hn : n ≤ 20) (hF : ∀ k, k < 20 → F k = nI (p k)) (hp : ∀ k, k < 20 → p k ≤ 100) {k : Nat} (hk : k ≤ n) : ((∀ x, x < k → p x = 0) → adR (nI A) F (nI S) n k = lfD (nI A) F (nI S) n) ∧ ((¬ ∀ x, x < k → p x = 0) → adR (nI A) F (nI S) n k = 0) := by
  induction k with
  | zero => exact ⟨fun _ => rfl, fun z => absurd (fun x hx => absurd hx (Nat.not_lt_zero x)) z⟩
  | succ k ih =>
    have f := Fpos (F := F) (p := p) (k := k) (hF _ (by omega)) (hp _ (by omega))
    obtain ⟨i1, i2⟩ := ih (by omega)
    refine ⟨fun z => ?_, fun z => ?_⟩
    · have e : adR (nI A) F (nI S) n (k + 1) = adR (nI A) F (nI S) n k := if_pos (f.mpr (z k (by omega)))
      rw [e]
      exact i1 (fun x hx => z x (by omega))
    · by_cases c : F k ≤ 0
      · have e : adR (nI A) F (nI S) n (k + 1) = adR (nI A) F (nI S) n k := if_pos c
        rw [e]
        refine i2 (fun w => z (fun x hx => ?_))
        by_cases cx : x = k
        · rw [cx]; exact f.mp c
        · exact w x (by omega)
      · exact if_neg c
end PTS
/-- a partnership's portions are taxed as the reference does it -/
theorem pts_eq {A S n : Nat} {p : Nat → Nat} {F F2 : Nat → Int32} (hA9 : A ≤ 1000000000) (hSs : S = sumN p 20) (hS0 : 0 < S) (hn : n ≤ 20) (hF : ∀ k, k < 20 → F k = nI (p k)) (hF2 : ∀ k, k < 20 → F2 k = nI (p k)) (hp : ∀ k, k < 20 → p k ≤ 100) (hpn : ∀ k, n ≤ k → k < 20 → p k = 0) (ge ld sr tr : Nat → Int32) (b j : Nat) (fo : Int32)
    (hr : ∀ k, k < n → ¬ p k = 0 → rD ge (ld k) = sr (b + k)) (ht : ∀ k, k < n → ((foB j ||| foB k) &&& fo = foB j ||| foB k ↔ ¬ tr k = 0)) :
    ∀ k, k ≤ n → tall (adL (nI A) F (nI S) n ge ld j k) fo = txS (lN A) F2 (nI S) (low F2 20) sr tr b k := by
  have hA : A ≤ 2 ^ 30 := by omega
  have hS : S ≤ 2000 := by rw [hSs]; exact sumN_le hp
  have hX : sumN (fun i => A * p i / S) n = sumN (fun i => A * p i / S) 20 := (sumN_zero hn (fun x h1 h2 => by rw [hpn x h1 h2, Nat.mul_zero, Nat.zero_div])).symm
  intro k
  induction k with
  | zero => intro _; rfl
  | succ k ih =>
    intro hk
    have ih := ih (by omega)
    have f := Fpos (F := F) (p := p) (k := k) (hF _ (by omega)) (hp _ (by omega))
    show tall (if F k ≤ 0 then adL (nI A) F (nI S) n ge ld j k else adL (nI A) F (nI S) n ge ld j k ++ [(prp (nI A) (F k) (nI S) + adR (nI A) F (nI S) n k, rD ge (ld k), foB j ||| foB k)]) fo = txS (lN A) F2 (nI S) (low F2 20) sr tr b k + txP (lN A) F2 (nI S) (low F2 20) sr tr b k
    unfold txP
    by_cases c : p k = 0
    · rw [if_pos (f.mpr c), if_pos (by rw [hF2 k (by omega), c]; rfl), ih]
      simp
    · have c2 : ¬ F2 k = 0 := fun z => c ((nI_eq (a := p k) (b := 0) (by have := hp k (by omega); omega) (by decide)).mp ((hF2 k (by omega)).symm.trans z))
      rw [if_neg (fun z => c (f.mp z)), if_neg c2, tall_app, ih]
      refine congrArg (fun z => txS (lN A) F2 (nI S) (low F2 20) sr tr b k + z) ?_
      rw [prp_N hA hS0 hS (hF k (by omega)) (hp k (by omega)), shr_N hA hS0 hS (hF2 k (by omega)) (hp k (by omega))]
      have hx1 := xs_A (A := A) (k := k + 1) hS0 hSs (by omega)
      have hx2 : sumN (fun i => A * p i / S) (k + 1) = sumN (fun i => A * p i / S) k + A * p k / S := rfl
      have hx3 := xs_A (A := A) (k := 20) hS0 hSs (by omega)
      obtain ⟨a1, a2⟩ := adR_N (A := A) (S := S) hn hF hp (show k ≤ n by omega)
      have li := low_iff hF2 hp (show k < 20 by omega) c
      have tail : ∀ e : Nat, e < 2 ^ 31 → pt3 (nI e, rD ge (ld k), foB j ||| foB k) fo = taxL (lN e) (if tr k = 0 then 30 else sr (b + k)) := fun e he => by
        rw [pt3_N he, hr k (by omega) c]
        by_cases ct : tr k = 0
        · rw [if_neg (fun z => (ht k (by omega)).mp z ct), if_pos ct]
        · rw [if_pos ((ht k (by omega)).mpr ct), if_neg ct]
      unfold lfA
      by_cases cf : ∀ x, x < k → p x = 0
      · rw [a1 cf, if_pos (li.mpr cf), lfD_N hA hS0 hS hSs hF hp hn, lft_N hA hS0 hS hSs hF2 hp (Nat.le_refl 20), hX, nI_add, lN_add]
        exact tail _ (by omega)
      · rw [a2 cf, if_neg (fun z => cf (li.mp z))]
        rw [show nI (A * p k / S) + 0 = nI (A * p k / S) by simp, show lN (A * p k / S) + 0 = lN (A * p k / S) by simp]
        exact tail _ (by omega)
