/-! ===== sets of forms, bit by bit ===== -/
theorem foB_bit : ∀ k, k < 20 → ∀ i, i < 32 → (foB k).toBitVec.getLsbD i = decide (i = k) := by decide +kernel
abbrev bitF (f : Int32) (k : Nat) : Bool := f.toBitVec.getLsbD k
theorem i32_ext {a b : Int32} (h : ∀ i, i < 32 → a.toBitVec.getLsbD i = b.toBitVec.getLsbD i) : a = b := by
  apply Int32.toBitVec_inj.mp
  apply BitVec.eq_of_getLsbD_eq
  exact h
theorem and_bit (a b : Int32) (i : Nat) : (a &&& b).toBitVec.getLsbD i = (a.toBitVec.getLsbD i && b.toBitVec.getLsbD i) := by rw [Int32.toBitVec_and, BitVec.getLsbD_and]
theorem or_bit (a b : Int32) (i : Nat) : (a ||| b).toBitVec.getLsbD i = (a.toBitVec.getLsbD i || b.toBitVec.getLsbD i) := by rw [Int32.toBitVec_or, BitVec.getLsbD_or]
theorem fo_iff {k : Nat} (hk : k < 20) (f : Int32) : foB k &&& f = foB k ↔ bitF f k = true := by
  constructor
  · intro h
    have e := congrArg (fun z => z.toBitVec.getLsbD k) h
    simp only [and_bit, foB_bit k hk k (by omega)] at e
    simpa using e
  · intro h
    apply i32_ext
    intro i hi
    rw [and_bit, foB_bit k hk i hi]
    by_cases c : i = k
    · subst c
      rw [show f.toBitVec.getLsbD i = true from h]
      simp
    · simp [c]
theorem fo2_iff {j k : Nat} (hj : j < 20) (hk : k < 20) (f : Int32) : (foB j ||| foB k) &&& f = foB j ||| foB k ↔ bitF f j = true ∧ bitF f k = true := by
  constructor
  · intro h
    refine ⟨?_, ?_⟩
    · have e := congrArg (fun z => z.toBitVec.getLsbD j) h
      simp only [and_bit, or_bit, foB_bit j hj j (by omega)] at e
      simpa using e
    · have e := congrArg (fun z => z.toBitVec.getLsbD k) h
      simp only [and_bit, or_bit, foB_bit k hk k (by omega)] at e
      simpa using e
  · rintro ⟨h1, h2⟩
    apply i32_ext
    intro i hi
    rw [and_bit, or_bit, foB_bit j hj i hi, foB_bit k hk i hi]
    by_cases c : i = j
    · subst c
      rw [show f.toBitVec.getLsbD i = true from h1]
      simp
    · by_cases c2 : i = k
      · subst c2
        rw [show f.toBitVec.getLsbD i = true from h2]
        simp
      · simp [c, c2]
theorem bit_0 (k : Nat) : bitF 0 k = false := by
  show (0 : Int32).toBitVec.getLsbD k = false
  simp
theorem bit_m1 : ∀ k, k < 20 → bitF (-1) k = true := by decide +kernel
theorem bit_foB {j k : Nat} (hj : j < 20) (hk : k < 20) : bitF (foB j) k = decide (k = j) := foB_bit j hj k (by omega)
/-- the valid forms' mask -/
theorem bit_vfm (dy : Int32) (fe : Nat → Int32) {n : Nat} (hn : n ≤ 20) {k : Nat} (hk : k < 20) : bitF (vfm dy fe n) k = true ↔ k < n ∧ ¬ hf dy (fe k) = 0 := by
  induction n with
  | zero =>
    show bitF 0 k = true ↔ _
    rw [bit_0]
    simp
  | succ n ih =>
    have ih := ih (by omega)
    by_cases c : hf dy (fe n) = 0
    · have e : vfm dy fe (n + 1) = vfm dy fe n := if_pos c
      rw [e, ih]
      constructor
      · exact fun z => ⟨by omega, z.2⟩
      · intro z
        refine ⟨?_, z.2⟩
        have : ¬ k = n := fun y => z.2 (y ▸ c)
        omega
    · have e : vfm dy fe (n + 1) = vfm dy fe n ||| foB n := if_neg c
      rw [e]
      show (vfm dy fe n ||| foB n).toBitVec.getLsbD k = true ↔ _
      rw [or_bit, Bool.or_eq_true, show ((vfm dy fe n).toBitVec.getLsbD k = true) = (bitF (vfm dy fe n) k = true) from rfl, ih, show (foB n).toBitVec.getLsbD k = decide (k = n) from bit_foB (by omega) hk]
      constructor
      · rintro (z | z)
        · exact ⟨by omega, z.2⟩
        · have : k = n := by simpa using z
          subst this
          exact ⟨by omega, c⟩
      · intro z
        by_cases y : k = n
        · exact Or.inr (by simpa using y)
        · exact Or.inl ⟨by omega, z.2⟩
/-- what a payment of am cents is taxed at, v telling whose form counts -/
def txG (kd : Int32) (am : Int32) (pf : Nat → Int32) (sr : Nat → Int32) (b : Nat) (ow : Int32) (v : Nat → Int32) (j n : Nat) : Int32 :=
  if kd = 2 then (if dsum pf 20 = 0 then taxL am.toInt64 30 else txS am.toInt64 pf (dsum pf 20) (low pf 20) sr (fun k => if v j = 0 then 0 else if v k = 0 then 0 else 1) b n) else taxL am.toInt64 (if v j = 0 then 30 else ow)
theorem taxF_G (dy : Int32) (n : Nat) (kd vt gr sr ow wv pt : Nat → Int32) (D j : Nat) (q0 q1 : Int32) : taxF dy n kd vt gr sr ow wv pt D j q0 q1 = txG (kd j) (gr (20 * D + j)) (ptF pt D j) sr (20 * D) (ow (20 * D + j)) (fun k => cnt dy (vt k) (wv (20 * D + k)) q0 q1) j n := rfl
theorem txS_n {al : Int64} {f : Nat → Int32} {sm lw : Int32} {sr tr : Nat → Int32} {b n k : Nat} (h : n ≤ k) (hz : ∀ x, n ≤ x → x < k → f x = 0) : txS al f sm lw sr tr b k = txS al f sm lw sr tr b n := by
  induction k with
  | zero => rw [Nat.le_zero.mp h]
  | succ k ih =>
    by_cases c : n = k + 1
    · rw [c]
    · show txS al f sm lw sr tr b k + (if f k = 0 then 0 else _) = _
      rw [if_pos (hz k (by omega) (by omega)), ih (by omega) (fun x h1 h2 => hz x h1 (by omega))]
      simp
/-- more holders change no tax -/
theorem txG_n {kd am : Int32} {pf sr : Nat → Int32} {b : Nat} {ow : Int32} {v : Nat → Int32} {j n k : Nat} (h : n ≤ k) (hz : ∀ x, n ≤ x → x < k → pf x = 0) : txG kd am pf sr b ow v j k = txG kd am pf sr b ow v j n := by
  unfold txG
  rw [txS_n h hz]
/-- the portions made on a pay day -/
theorem mk_tax {dy : Int32} {n : Nat} {ar : Nat → Nat → Int32} {j A : Nat} {p : Nat → Nat} {pf sr : Nat → Int32} {b : Nat} {ow fo : Int32} {v : Nat → Int32} (hn : n ≤ 20) (hj : j < n) (hA : A ≤ 1000000000)
    (hF : ∀ k, k < 20 → prow (ar 9) j k = nI (p k)) (hF2 : ∀ k, k < 20 → pf k = nI (p k)) (hp : ∀ k, k < 20 → p k ≤ 100) (hpn : ∀ k, n ≤ k → k < 20 → p k = 0)
    (hr : ar 4 j = 2 → ∀ k, k < n → ¬ p k = 0 → rD (ar 1) (ar 5 k) = sr (b + k)) (ho : ¬ ar 4 j = 2 → ownF (rD (ar 1) (ar 5 j)) (rD (ar 2) (ar 5 j)) (hlg (ar 4 j) (ar 6 j) (ar 8 j) dy) = ow) (hv : ∀ k, k < 20 → (bitF fo k = true ↔ ¬ v k = 0)) :
    tall (mkP dy n ar j (nI A)) fo = txG (ar 4 j) (nI A) pf sr b ow v j n := by
  have hS : sumN p 20 ≤ 2000 := sumN_le hp
  unfold mkP txG
  by_cases c : ar 4 j = 2
  · rw [if_pos c, if_pos c, dsum_N hF2]
    unfold addP
    rw [l_sum_N hF]
    by_cases c0 : nI (sumN p 20) = 0
    · rw [if_pos c0, if_pos c0, tall_one]
      rw [if_pos (by simp)]
    · have h0 : 0 < sumN p 20 := Nat.pos_of_ne_zero (fun z => c0 (by rw [z]; rfl))
      rw [if_neg c0, if_neg c0, nI_l (by omega)]
      refine pts_eq hA rfl h0 hn hF hF2 hp hpn _ _ _ _ _ _ _ (hr c) (fun k hk => ?_) n (Nat.le_refl n)
      rw [fo2_iff (by omega) (by omega), hv j (by omega), hv k (by omega)]
      by_cases v1 : v j = 0
      · simp [v1]
      · by_cases v2 : v k = 0 <;> simp [v1, v2]
  · rw [if_neg c, if_neg c, tall_one, ho c]
    by_cases v1 : v j = 0
    · rw [if_neg (fun z => (hv j (by omega)).mp ((fo_iff (by omega) fo).mp z) v1), if_pos v1]
    · rw [if_pos ((fo_iff (by omega) fo).mpr ((hv j (by omega)).mpr v1)), if_neg v1]
