/-! ===== words of the class's answers ===== -/
theorem iw_no {n a b : Int32} (h : ¬ iw n a b = 0) : ¬ n < a ∧ ¬ b < n := by
  unfold iw at h
  by_cases h1 : n < a
  · simp [h1] at h
  · by_cases h2 : b < n
    · simp [h1, h2] at h
    · exact ⟨h1, h2⟩
theorem iw_vp {n : Int32} {k : Nat} (hk : k + 1 < 2 ^ 31) (h : ¬ iw n 0 (nI k) = 0) : vp_in n (k + 1) := by
  obtain ⟨h1, h2⟩ := iw_no h
  obtain ⟨j, hj, rfl⟩ := nI_of h1
  refine vp_in_nI ?_ hk
  apply Nat.lt_of_not_le
  intro z
  exact h2 (nI_lt (by omega) hj)
theorem iwh_ex {p : Int32} {n : Nat} (hn : n ≤ 1000) (h : ¬ iw p 0 (nI n - 1) = 0) : ∃ j : Nat, j < n ∧ p = nI j := by
  obtain ⟨h1, h2⟩ := iw_no h
  obtain ⟨j, hj, rfl⟩ := nI_of h1
  cases n with
  | zero => exact absurd (show nI 0 - 1 < nI j by
      rw [Int32.lt_iff_toInt_lt, nI_toInt hj]
      have : (nI 0 - 1 : Int32).toInt = -1 := by decide
      omega) h2
  | succ k =>
    rw [nI_pred] at h2
    refine ⟨j, ?_, rfl⟩
    apply Nat.lt_of_not_le
    intro z
    exact h2 (nI_lt (by omega) hj)
def fTr (a b d : Int32) : Int32 := if iw a 0 5 = 0 then 1 else if iw b 0 30 = 0 then 1 else if iw d 0 30 = 0 then 1 else 0
def fAh (a b : Int32) (n : Nat) : Int32 := if iw a 0 2 = 0 then 1 else if a = 2 then (if b = -1 then (if nI n = 20 then 2 else 0) else 1) else if iw b 0 5 = 0 then 1 else if nI n = 20 then 2 else 0
def fSp (a b k : Int32) (n : Nat) (kd : Nat → Int32) : Int32 := if iw a 0 (nI n - 1) = 0 then 1 else if iw b 0 (nI n - 1) = 0 then 1 else if ¬ kd a.toNatClampNeg = 2 then 2 else if kd b.toNatClampNeg = 2 then 2 else if iw k 0 100 = 0 then 2 else 0
def fSs (a b : Int32) (n : Nat) (sh : Nat → Int32) : Int32 := if iw a 0 (nI n - 1) = 0 then 1 else if iw b 0 1000000 = 0 then 2 else if l_sum sh n - sh a.toNatClampNeg + b ≤ 1000000 then 0 else 3
def fGf (a : Int32) (n : Nat) : Int32 := if iw a 0 (nI n - 1) = 0 then 1 else 0
def fPs (a dy : Int32) : Int32 := if iw a 1 2000 = 0 then 1 else if dy + a ≤ 20000 then 0 else 2
/-- the days since when, for the first k holders -/
def psS (sh es : Nat → Int32) (dy : Int32) (k : Nat) : Nat → Int32 := fun j => if j < k then sinceF (sh j) (es j) dy else es j
theorem psS_0 (sh es : Nat → Int32) (dy : Int32) : psS sh es dy 0 = es := by funext j; simp [psS]
theorem psS_1 (sh es : Nat → Int32) (dy : Int32) (k : Nat) : upd (psS sh es dy k) k (sinceF (sh k) (es k) dy) = psS sh es dy (k + 1) := by
  funext j
  unfold upd psS
  by_cases h : j = k
  · subst h; simp
  · by_cases h2 : j < k
    · simp [h, h2, show j < k + 1 by omega]
    · simp [h, h2, show ¬ j < k + 1 by omega]
theorem psS_at (sh es : Nat → Int32) (dy : Int32) (k : Nat) : psS sh es dy k k = es k := by simp [psS]
theorem va_up_up {α : Type} (f : Nat → α) (k : Nat) (v w : α) : va_up (va_up f k v) k w = va_up f k w := by
  funext j
  unfold va_up
  by_cases h : j = k <;> simp [h]
theorem va_up_id {α : Type} (f : Nat → α) (k : Nat) : va_up f k (f k) = f := by
  funext j
  unfold va_up
  by_cases h : j = k <;> simp [h]
def fAk (a : Int32) (n : Nat) : Int32 := if iw a 0 (nI n - 1) = 0 then 1 else 0
def fAa (a b : Int32) (n d : Nat) : Int32 := if iw a 0 (nI d - 1) = 0 then 1 else if iw b 0 (nI n - 1) = 0 then 1 else 0
def rt (g lg L : Int32) : Int32 := if L = 0 then g else if g ≤ lg then g else lg
def fRt (a : Int32) (n : Nat) (kd : Nat → Int32) : Int32 := if iw a 0 (nI n - 1) = 0 then 1 else if kd a.toNatClampNeg = 2 then 2 else 0
/-! ===== the reference: taxes ===== -/
def ovF (gr po dy ds : Int32) : Int32 := if gr = 0 then 1 else if dy - po ≤ ds then 0 else 1
def fRf (a b : Int32) (n d : Nat) (gr po : Nat → Int32) (dy : Int32) : Int32 := if iw a 0 (nI d - 1) = 0 then 1 else if iw b 0 (nI n - 1) = 0 then 1 else if ¬ ovF (gr (20 * a.toNatClampNeg + b.toNatClampNeg)) (po a.toNatClampNeg) dy 60 = 0 then 2 else 0
def fCl (a b : Int32) (n d : Nat) (gr po vt : Nat → Int32) (dy : Int32) : Int32 := if iw a 0 (nI d - 1) = 0 then 1 else if iw b 0 (nI n - 1) = 0 then 1 else if ¬ ovF (gr (20 * a.toNatClampNeg + b.toNatClampNeg)) (po a.toNatClampNeg) dy 1080 = 0 then 2 else if hf dy (vt b.toNatClampNeg) = 0 then 2 else 0
/-! ===== the reference: paying ===== -/
def fillF (old : Nat → Int32) (b : Nat) (v : Nat → Int32) (k : Nat) : Nat → Int32 := fun x => if b ≤ x ∧ x < b + k then v (x - b) else old x
theorem fill_0 (old : Nat → Int32) (b : Nat) (v : Nat → Int32) : fillF old b v 0 = old := by
  funext x
  unfold fillF
  exact if_neg (by omega)
theorem fill_1 (old : Nat → Int32) (b : Nat) (v : Nat → Int32) (k : Nat) : upd (fillF old b v k) (b + k) (v k) = fillF old b v (k + 1) := by
  funext x
  unfold upd fillF
  by_cases h : x = b + k
  · subst h
    simp
  · by_cases h2 : b ≤ x ∧ x < b + k
    · rw [if_neg h, if_pos h2, if_pos (by omega)]
    · rw [if_neg h, if_neg h2, if_neg (by omega)]
theorem fill_out (old : Nat → Int32) (b : Nat) (v : Nat → Int32) {k x : Nat} (hx : x < b ∨ b + k ≤ x) : fillF old b v k x = old x := by
  unfold fillF
  exact if_neg (by omega)
abbrev payG (ar : Nat → Nat → Int32) (d : Nat) (c : Int32) (k : Nat) : Nat → Int32 := fillF (ar 12) (20 * d) (fun i => ar 6 i * c) k
def fPy (a : Int32) (d : Nat) (sm : Int32) : Int32 := if iw a 1 1000 = 0 then 1 else if nI d = 40 then 2 else if sm = 0 then 2 else 0
