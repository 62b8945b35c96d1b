/-! ===== a pay day keeps what always holds ===== -/
theorem dsum_cg {f g : Nat → Int32} (h : ∀ k, k < 20 → f k = g k) : ∀ i, i ≤ 20 → dsum f i = dsum g i := by
  intro i
  induction i with
  | zero => intro _; rfl
  | succ i ih =>
    intro hi
    show dsum f i + f (19 - i) = dsum g i + g (19 - i)
    rw [ih (by omega), h _ (by omega)]
theorem low_cg {f g : Nat → Int32} (h : ∀ k, k < 20 → f k = g k) : ∀ i, i ≤ 20 → low f i = low g i := by
  intro i
  induction i with
  | zero => intro _; rfl
  | succ i ih =>
    intro hi
    show (if f (19 - i) ≤ 0 then low f i else nI (19 - i)) = if g (19 - i) ≤ 0 then low g i else nI (19 - i)
    rw [ih (by omega), h _ (by omega)]
theorem lft_cg {al : Int64} {sm : Int32} {f g : Nat → Int32} (h : ∀ k, k < 20 → f k = g k) : ∀ i, i ≤ 20 → lft al f sm i = lft al g sm i := by
  intro i
  induction i with
  | zero => intro _; rfl
  | succ i ih =>
    intro hi
    show lft al f sm i - shr al f sm i = lft al g sm i - shr al g sm i
    unfold shr
    rw [ih (by omega), h _ (by omega)]
theorem txS_cg {al : Int64} {sm lw : Int32} {f g sr sr2 tr : Nat → Int32} {b : Nat} (h : ∀ k, k < 20 → f k = g k) (hs : ∀ k, k < 20 → sr (b + k) = sr2 (b + k)) : ∀ i, i ≤ 20 → txS al f sm lw sr tr b i = txS al g sm lw sr2 tr b i := by
  intro i
  induction i with
  | zero => intro _; rfl
  | succ i ih =>
    intro hi
    show txS al f sm lw sr tr b i + txP al f sm lw sr tr b i = txS al g sm lw sr2 tr b i + txP al g sm lw sr2 tr b i
    unfold txP lfA shr
    rw [ih (by omega), h i (by omega), hs i (by omega), lft_cg h 20 (Nat.le_refl 20)]
theorem txG_cg {kd am ow : Int32} {f g sr sr2 v : Nat → Int32} {b j n : Nat} (hn : n ≤ 20) (h : ∀ k, k < 20 → f k = g k) (hs : ∀ k, k < 20 → sr (b + k) = sr2 (b + k)) : txG kd am f sr b ow v j n = txG kd am g sr2 b ow v j n := by
  unfold txG
  rw [dsum_cg h 20 (Nat.le_refl 20), low_cg h 20 (Nat.le_refl 20), txS_cg h hs n hn]
theorem sumN_at (s : Nat → Nat) {k n : Nat} (hk : k < n) : s k ≤ sumN s n := Nat.le_trans (Nat.le_add_left _ (sumN s k)) (sumN_mono s (show k + 1 ≤ n from hk))
theorem taxL_N {e r : Nat} (he : e ≤ 2 ^ 31) (hr : r ≤ 30) : taxL (lN e) (nI r) = nI (e * r / 100) := by
  unfold taxL
  have h1 : e * r ≤ 2 ^ 31 * 30 := Nat.mul_le_mul he hr
  rw [nI_l (by omega), lN_mul, show (100 : Int64) = lN 100 from rfl, pk_lDiv (by omega) (by decide) (by decide), lN_i]
/-- no tax is more than 30 of a hundred of what was paid -/
theorem txG_bd {A n : Nat} {p : Nat → Nat} {pf sr v : Nat → Int32} {kd ow : Int32} {b j : Nat} (hA : A ≤ 1000000000) (hn : n ≤ 20) (hF : ∀ k, k < 20 → pf k = nI (p k)) (hp : ∀ k, k < 20 → p k ≤ 100) (hs : ∀ k, k < n → ∃ r : Nat, r ≤ 30 ∧ sr (b + k) = nI r) (ho : ∃ r : Nat, r ≤ 30 ∧ ow = nI r) : ∃ t : Nat, t ≤ 2 ^ 29 ∧ txG kd (nI A) pf sr b ow v j n = nI t := by
  have one : ∀ r : Nat, r ≤ 30 → A * r / 100 ≤ 2 ^ 29 := fun r hr => by
    have : A * r ≤ 1000000000 * 30 := Nat.mul_le_mul hA hr
    omega
  unfold txG
  rw [nI_l (by omega)]
  by_cases c : kd = 2
  · rw [if_pos c, dsum_N hF]
    by_cases c0 : nI (sumN p 20) = 0
    · rw [if_pos c0]
      exact ⟨A * 30 / 100, one 30 (Nat.le_refl 30), taxL_N (by omega) (Nat.le_refl 30)⟩
    · have h0 : 0 < sumN p 20 := Nat.pos_of_ne_zero (fun z => c0 (by rw [z]; rfl))
      have hS : sumN p 20 ≤ 2000 := sumN_le hp
      rw [if_neg c0]
      have hx := fun k (hk : k ≤ 20) => xs_A (A := A) (p := p) (k := k) h0 rfl hk
      obtain ⟨X, eX⟩ : ∃ X : Nat → Nat, X = fun i => A * p i / sumN p 20 := ⟨_, rfl⟩
      rw [← eX] at hx
      obtain ⟨Lf, eL⟩ : ∃ Lf : Nat, Lf = A - sumN X 20 := ⟨_, rfl⟩
      have hxA := hx 20 (Nat.le_refl 20)
      have main : ∀ k, k ≤ n → ∃ (t : Nat), txS (lN A) pf (nI (sumN p 20)) (low pf 20) sr (fun k => if v j = 0 then 0 else if v k = 0 then 0 else 1) b k = nI t ∧ ((∀ x, x < k → p x = 0) → t = 0) ∧ 100 * t ≤ 30 * (sumN X k + Lf) := by
        intro k
        induction k with
        | zero => intro _; exact ⟨0, rfl, fun _ => rfl, by omega⟩
        | succ k ih =>
          intro hk
          obtain ⟨t, t1, t2, t3⟩ := ih (by omega)
          have eXk : sumN X (k + 1) = sumN X k + X k := rfl
          show ∃ t', txS _ _ _ _ _ _ _ k + txP _ _ _ _ _ _ _ k = nI t' ∧ _ ∧ _
          rw [t1]
          unfold txP
          by_cases cp : p k = 0
          · refine ⟨t, ?_, fun z => t2 (fun x hx => z x (by omega)), by omega⟩
            rw [if_pos (by rw [hF k (by omega), cp]; rfl)]
            simp
          · have c2 : ¬ pf k = 0 := fun z => cp ((nI_eq (a := p k) (b := 0) (by have := hp k (by omega); omega) (by decide)).mp ((hF k (by omega)).symm.trans z))
            rw [if_neg c2, shr_N (by omega) h0 hS (hF k (by omega)) (hp k (by omega))]
            have li := low_iff hF hp (show k < 20 by omega) cp
            have xk : A * p k / sumN p 20 = X k := by rw [eX]
            have hxk := hx (k + 1) (by omega)
            obtain ⟨r, hr, er⟩ : ∃ r : Nat, r ≤ 30 ∧ (if (if v j = 0 then (0 : Int32) else if v k = 0 then 0 else 1) = 0 then 30 else sr (b + k)) = nI r := by
              by_cases cz : (if v j = 0 then (0 : Int32) else if v k = 0 then 0 else 1) = 0
              · rw [if_pos cz]
                exact ⟨30, Nat.le_refl 30, rfl⟩
              · rw [if_neg cz]
                exact hs k (by omega)
            rw [er, xk]
            unfold lfA
            by_cases cf : ∀ x, x < k → p x = 0
            · have t0 := t2 cf
              rw [if_pos (li.mpr cf), lft_N (by omega) h0 hS rfl hF hp (Nat.le_refl 20), ← eX, ← eL, lN_add, taxL_N (by omega) hr, nI_add]
              have hm : (X k + Lf) * r ≤ (X k + Lf) * 30 := Nat.mul_le_mul_left _ hr
              exact ⟨_, rfl, fun z => absurd (z k (by omega)) cp, by omega⟩
            · rw [if_neg (fun z => cf (li.mp z)), show lN (X k) + 0 = lN (X k) by simp, taxL_N (by omega) hr, nI_add]
              have hm : X k * r ≤ X k * 30 := Nat.mul_le_mul_left _ hr
              exact ⟨_, rfl, fun z => absurd (z k (by omega)) cp, by omega⟩
      obtain ⟨t, t1, t2, t3⟩ := main n (Nat.le_refl n)
      have := sumN_mono X hn
      exact ⟨t, by omega, t1⟩
  · rw [if_neg c]
    by_cases cv : v j = 0
    · rw [if_pos cv]
      exact ⟨A * 30 / 100, one 30 (Nat.le_refl 30), taxL_N (by omega) (Nat.le_refl 30)⟩
    · obtain ⟨r, hr, er⟩ := ho
      rw [if_neg cv, er]
      exact ⟨A * r / 100, one r hr, taxL_N (by omega) hr⟩
