/-! ===== sets of forms, and the law's packed numbers, bit by bit ===== -/
/-! ===== sets of forms, bit by bit ===== -/
theorem foB_bit : ∀ k, k < 20 → ∀ i, i < 32 → (foB k).toBitVec.getLsbD i = decide (i = k) := by decide +kernel
abbrev bitF (f : Int32) (k : Nat) : Bool := f.toBitVec.getLsbD k
theorem i32_ext {a b : Int32} (h : ∀ i, i < 32 → a.toBitVec.getLsbD i = b.toBitVec.getLsbD i) : a = b := by
  apply Int32.toBitVec_inj.mp
  apply BitVec.eq_of_getLsbD_eq
  exact h
theorem and_bit (a b : Int32) (i : Nat) : (a &&& b).toBitVec.getLsbD i = (a.toBitVec.getLsbD i && b.toBitVec.getLsbD i) := by rw [Int32.toBitVec_and, BitVec.getLsbD_and]
theorem or_bit (a b : Int32) (i : Nat) : (a ||| b).toBitVec.getLsbD i = (a.toBitVec.getLsbD i || b.toBitVec.getLsbD i) := by rw [Int32.toBitVec_or, BitVec.getLsbD_or]
theorem fo_iff {k : Nat} (hk : k < 20) (f : Int32) : foB k &&& f = foB k ↔ bitF f k = true := by
  constructor
  · intro h
    have e := congrArg (fun z => z.toBitVec.getLsbD k) h
    simp only [and_bit, foB_bit k hk k (by omega)] at e
    simpa using e
  · intro h
    apply i32_ext
    intro i hi
    rw [and_bit, foB_bit k hk i hi]
    by_cases c : i = k
    · subst c
      rw [show f.toBitVec.getLsbD i = true from h]
      simp
    · simp [c]
theorem fo2_iff {j k : Nat} (hj : j < 20) (hk : k < 20) (f : Int32) : (foB j ||| foB k) &&& f = foB j ||| foB k ↔ bitF f j = true ∧ bitF f k = true := by
  constructor
  · intro h
    refine ⟨?_, ?_⟩
    · have e := congrArg (fun z => z.toBitVec.getLsbD j) h
      simp only [and_bit, or_bit, foB_bit j hj j (by omega)] at e
      simpa using e
    · have e := congrArg (fun z => z.toBitVec.getLsbD k) h
      simp only [and_bit, or_bit, foB_bit k hk k (by omega)] at e
      simpa using e
  · rintro ⟨h1, h2⟩
    apply i32_ext
    intro i hi
    rw [and_bit, or_bit, foB_bit j hj i hi, foB_bit k hk i hi]
    by_cases c : i = j
    · subst c
      rw [show f.toBitVec.getLsbD i = true from h1]
      simp
    · by_cases c2 : i = k
      · subst c2
        rw [show f.toBitVec.getLsbD i = true from h2]
        simp
      · simp [c, c2]
theorem bit_0 (k : Nat) : bitF 0 k = false := by
  show (0 : Int32).toBitVec.getLsbD k = false
  simp
theorem bit_m1 : ∀ k, k < 20 → bitF (-1) k = true := by decide +kernel
theorem bit_foB {j k : Nat} (hj : j < 20) (hk : k < 20) : bitF (foB j) k = decide (k = j) := foB_bit j hj k (by omega)
/-- the valid forms' mask -/
theorem bit_vfm (dy : Int32) (fe : Nat → Int32) {n : Nat} (hn : n ≤ 20) {k : Nat} (hk : k < 20) : bitF (vfm dy fe n) k = true ↔ k < n ∧ ¬ hf dy (fe k) = 0 := by
  induction n with
  | zero =>
    show bitF 0 k = true ↔ _
    rw [bit_0]
    simp
  | succ n ih =>
    have ih := ih (by omega)
    by_cases c : hf dy (fe n) = 0
    · have e : vfm dy fe (n + 1) = vfm dy fe n := if_pos c
      rw [e, ih]
      constructor
      · exact fun z => ⟨by omega, z.2⟩
      · intro z
        refine ⟨?_, z.2⟩
        have : ¬ k = n := fun y => z.2 (y ▸ c)
        omega
    · have e : vfm dy fe (n + 1) = vfm dy fe n ||| foB n := if_neg c
      rw [e]
      show (vfm dy fe n ||| foB n).toBitVec.getLsbD k = true ↔ _
      rw [or_bit, Bool.or_eq_true, show ((vfm dy fe n).toBitVec.getLsbD k = true) = (bitF (vfm dy fe n) k = true) from rfl, ih, show (foB n).toBitVec.getLsbD k = decide (k = n) from bit_foB (by omega) hk]
      constructor
      · rintro (z | z)
        · exact ⟨by omega, z.2⟩
        · have : k = n := by simpa using z
          subst this
          exact ⟨by omega, c⟩
      · intro z
        by_cases y : k = n
        · exact Or.inr (by simpa using y)
        · exact Or.inl ⟨by omega, z.2⟩
abbrev bl (x : Int64) (i : Nat) : Bool := x.toBitVec.getLsbD i
theorem bl_s : ∀ k, k < 64 → (((nI k).toInt64 &&& 63).toBitVec.smod 64).toNat = k := by decide +kernel
theorem bl_shl {k : Nat} (hk : k < 64) (x : Int64) {i : Nat} (hi : i < 64) : bl (x <<< ((nI k).toInt64 &&& 63)) i = (decide (k ≤ i) && bl x (i - k)) := by
  unfold bl
  rw [Int64.toBitVec_shiftLeft]
  show (x.toBitVec <<< (((nI k).toInt64 &&& 63).toBitVec.smod 64).toNat).getLsbD i = _
  rw [bl_s k hk, BitVec.getLsbD_shiftLeft]
  rcases Nat.lt_or_ge i k with h | h
  · simp [h, Nat.not_le.mpr h]
  · simp [hi, h, Nat.not_lt.mpr h]
theorem bl_shr {k : Nat} (hk : k < 64) (x : Int64) {i : Nat} (hi : i < 64) : bl (x >>> ((nI k).toInt64 &&& 63)) i = if k + i < 64 then bl x (k + i) else bl x 63 := by
  unfold bl
  rw [Int64.toBitVec_shiftRight]
  show (x.toBitVec.sshiftRight (((nI k).toInt64 &&& 63).toBitVec.smod 64).toNat).getLsbD i = _
  rw [bl_s k hk, BitVec.getLsbD_sshiftRight, BitVec.msb_eq_getLsbD_last]
  simp [hi]
theorem bl_and (x y : Int64) (i : Nat) : bl (x &&& y) i = (bl x i && bl y i) := by unfold bl; rw [Int64.toBitVec_and, BitVec.getLsbD_and]
theorem bl_or (x y : Int64) (i : Nat) : bl (x ||| y) i = (bl x i || bl y i) := by unfold bl; rw [Int64.toBitVec_or, BitVec.getLsbD_or]
theorem bl_xor (x y : Int64) (i : Nat) : bl (x ^^^ y) i = (bl x i ^^ bl y i) := by unfold bl; rw [Int64.toBitVec_xor, BitVec.getLsbD_xor]
theorem bl_m1 : ∀ i, i < 64 → bl (-1) i = true := by decide +kernel
def mkB (b : Nat) : Int64 := (1 <<< ((nI b).toInt64 &&& 63)) - 1
theorem bl_mk : ∀ b, b < 32 → ∀ i, i < 64 → bl (mkB b) i = decide (i < b) := by decide +kernel
theorem bl_N {n : Nat} (h : n < 2 ^ 31) {i : Nat} (hi : i < 64) : bl (nI n).toInt64 i = n.testBit i := by
  rw [nI_l h]
  show (BitVec.ofNat 64 n).getLsbD i = _
  rw [BitVec.getLsbD_ofNat]
  simp [hi]
theorem bl_32 (x : Int64) {i : Nat} (hi : i < 32) : bitF x.toInt32 i = bl x i := by
  show (x.toBitVec.signExtend 32).getLsbD i = x.toBitVec.getLsbD i
  rw [BitVec.getLsbD_signExtend]
  simp [hi, show i < 64 by omega]
/-- b bits of x from bit f on -/
def ptF (x : Int64) (f b : Nat) : Int32 := ((x >>> ((nI f).toInt64 &&& 63)) &&& mkB b).toInt32
/-- x with other b bits from bit f on -/
def wtF (x : Int64) (f b : Nat) (v : Int32) : Int64 := (x &&& ((mkB b <<< ((nI f).toInt64 &&& 63)) ^^^ -1)) ||| (v.toInt64 <<< ((nI f).toInt64 &&& 63))
theorem ptF_bit {x : Int64} {f b : Nat} (hf : f + b ≤ 60) (hb : b < 32) {i : Nat} (hi : i < 32) : bitF (ptF x f b) i = (decide (i < b) && bl x (f + i)) := by
  unfold ptF
  rw [bl_32 _ hi, bl_and, bl_mk b hb i (by omega), bl_shr (by omega) x (by omega)]
  by_cases c : i < b
  · rw [if_pos (by omega)]
    simp [c]
  · simp [c]
theorem wtF_bit {x : Int64} {f b w : Nat} (hf : f + b ≤ 60) (hb : b < 31) (hw : w < 2 ^ b) {i : Nat} (hi : i < 64) : bl (wtF x f b (nI w)) i = if f ≤ i ∧ i < f + b then w.testBit (i - f) else bl x i := by
  have hw2 : w < 2 ^ 31 := Nat.lt_of_lt_of_le hw (Nat.pow_le_pow_right (by decide) (by omega))
  unfold wtF
  rw [bl_or, bl_and, bl_xor, bl_m1 i hi, bl_shl (by omega) _ hi, bl_shl (by omega) _ hi]
  by_cases c1 : f ≤ i
  · rw [bl_mk b (by omega) (i - f) (by omega), bl_N hw2 (by omega)]
    by_cases c2 : i < f + b
    · rw [if_pos ⟨c1, c2⟩]
      simp [c1, show i - f < b by omega]
    · rw [if_neg (fun z => c2 z.2), Nat.testBit_lt_two_pow (Nat.lt_of_lt_of_le hw (Nat.pow_le_pow_right (by decide) (show b ≤ i - f by omega)))]
      simp [show ¬ i - f < b by omega]
  · rw [if_neg (fun z => c1 z.1)]
    simp [c1]
theorem pt_wt {x : Int64} {f b w : Nat} (hf : f + b ≤ 60) (hb : b < 31) (hw : w < 2 ^ b) : ptF (wtF x f b (nI w)) f b = nI w := by
  apply i32_ext
  intro i hi
  show bitF _ i = _
  rw [ptF_bit hf (by omega) hi]
  have e : (nI w).toBitVec.getLsbD i = w.testBit i := by
    show (BitVec.ofNat 32 w).getLsbD i = _
    rw [BitVec.getLsbD_ofNat]
    simp [hi]
  rw [e]
  by_cases c : i < b
  · rw [wtF_bit hf hb hw (show f + i < 64 by omega), if_pos ⟨by omega, by omega⟩]
    simp [c]
  · rw [Nat.testBit_lt_two_pow (Nat.lt_of_lt_of_le hw (Nat.pow_le_pow_right (by decide) (show b ≤ i by omega)))]
    simp [c]
theorem pt_wt2 {x : Int64} {f b w f2 b2 : Nat} (hf : f + b ≤ 60) (hb : b < 31) (hw : w < 2 ^ b) (hf2 : f2 + b2 ≤ 60) (hb2 : b2 < 32) (ha : f2 + b2 ≤ f ∨ f + b ≤ f2) : ptF (wtF x f b (nI w)) f2 b2 = ptF x f2 b2 := by
  apply i32_ext
  intro i hi
  show bitF _ i = bitF _ i
  rw [ptF_bit hf2 hb2 hi, ptF_bit hf2 hb2 hi]
  by_cases c : i < b2
  · rw [wtF_bit hf hb hw (show f2 + i < 64 by omega), if_neg (by omega)]
  · simp [c]
/-- a fresh holder's numbers -/
theorem pt_new : ∀ k, k < 3 → ∀ l, l < 7 → ptF ((nI k).toInt64 ||| ((nI l).toInt64 <<< ((2 : Int32).toInt64 &&& 63))) 0 2 = nI k ∧ ptF ((nI k).toInt64 ||| ((nI l).toInt64 <<< ((2 : Int32).toInt64 &&& 63))) 2 3 = nI l ∧ ptF ((nI k).toInt64 ||| ((nI l).toInt64 <<< ((2 : Int32).toInt64 &&& 63))) 5 20 = nI 0 ∧ ptF ((nI k).toInt64 ||| ((nI l).toInt64 <<< ((2 : Int32).toInt64 &&& 63))) 25 15 = nI 0 ∧ ptF ((nI k).toInt64 ||| ((nI l).toInt64 <<< ((2 : Int32).toInt64 &&& 63))) 40 15 = nI 0 := by decide +kernel
