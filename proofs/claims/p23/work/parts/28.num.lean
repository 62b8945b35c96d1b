/-! ===== what always holds of the desk's state and the law's numbers ===== -/
abbrev AR : Type := Nat → Nat → Int32
abbrev PO : Type := Nat → List (Int32 × Int32 × Int32)
/-- one holder: the desk's row, the law's packed number, what both mean -/
def NK (t : Nat) (ar : AR) (hF : Nat → Int64) (kd ld sh fo si : Nat → Nat) (k : Nat) : Prop :=
  (ar 4 k = nI (kd k) ∧ ar 5 k = nI (ld k) - 1 ∧ ar 6 k = nI (sh k) ∧ ar 7 k = nI (fo k) - 1 ∧ ar 8 k = nI (si k) - 1) ∧
  (ptF (hF k) 0 2 = nI (kd k) ∧ ptF (hF k) 2 3 = nI (ld k) ∧ ptF (hF k) 5 20 = nI (sh k) ∧ ptF (hF k) 25 15 = nI (fo k) ∧ ptF (hF k) 40 15 = nI (si k)) ∧
  ((kd k = 2 ∧ ld k = 0) ∨ (kd k < 2 ∧ 1 ≤ ld k ∧ ld k ≤ 6)) ∧ sh k ≤ 1000000 ∧ fo k ≤ 21081 ∧ si k ≤ t
def NR (ar : AR) (tF : Nat → Int32) (g la : Nat → Nat) : Prop := ∀ k, k < 6 → (ar 1 k = nI (g k) ∧ tF (2 * k) = nI (g k) ∧ g k ≤ 30) ∧ (ar 2 k = nI (la k) ∧ tF (2 * k + 1) = nI (la k) ∧ la k ≤ 30)
def NZ (n : Nat) (ar : AR) : Prop := ∀ k, n ≤ k → k < 20 → ar 6 k = 0 ∧ ar 7 k = -1 ∧ ar 8 k = -1
def NQ (n : Nat) (ar : AR) : Prop := ∀ i j, i < 20 → j < 20 → ∃ q : Nat, q ≤ 100 ∧ ar 9 (20 * i + j) = nI q ∧ (n ≤ i ∨ n ≤ j → q = 0)
/-- one payment: nothing, or an amount, what is held and what is due -/
def PY (n : Nat) (ar : AR) (po : PO) (m j : Nat) : Prop := ar 12 m = 0 ∨ (j < n ∧ ∃ A H D : Nat, 0 < A ∧ A ≤ 1000000000 ∧ ar 12 m = nI A ∧ ar 13 m = nI H ∧ PG (po m) A ∧ tall (po m) (-1) = nI D ∧ D ≤ H ∧ H ≤ A * 30 / 100 ∧ (¬ ar 4 j = 2 → ∃ e r : Int32, po m = [(e, r, foB j)]))
def NP (n d t : Nat) (ar : AR) (po : PO) (pF : Nat → Int32) : Prop :=
  (∀ m, 20 * d ≤ m → m < 800 → ar 12 m = 0) ∧ (∀ m, (po m).length ≤ 32) ∧ (∀ D, D < d → ∃ q : Nat, q ≤ t ∧ ar 11 D = nI q ∧ pF D = nI q) ∧ ∀ D j, D < d → j < 20 → PY n ar po (20 * D + j) j
def Nm (n d t : Nat) (ar : AR) (po : PO) (rf : Int64) (hF : Nat → Int64) (tF pF cF : Nat → Int32) (zF : Nat → Int64) (kd ld sh fo si g la : Nat → Nat) : Prop :=
  (n ≤ 20 ∧ d ≤ 12 ∧ t ≤ 20000) ∧ (cF 0 = nI t ∧ cF 1 = nI n ∧ cF 2 = nI d ∧ zF 0 = rf) ∧ (∀ k, k < n → NK t ar hF kd ld sh fo si k) ∧ sumN sh n ≤ 1000000 ∧ NR ar tF g la ∧ NZ n ar ∧ NQ n ar ∧ NP n d t ar po pF
theorem upd_eq {f : Nat → Int32} {k : Nat} {x : Int32} : upd f k x k = x := if_pos rfl
theorem upd_ne {f : Nat → Int32} {k j : Nat} {x : Int32} (h : ¬ j = k) : upd f k x j = f j := if_neg h
theorem updL_eq {f : Nat → Int64} {k : Nat} {x : Int64} : vp_updL f k x k = x := if_pos rfl
theorem updL_ne {f : Nat → Int64} {k j : Nat} {x : Int64} (h : ¬ j = k) : vp_updL f k x j = f j := if_neg h
section NUM
variable {n d t : Nat} {ar : AR} {po : PO} {rf : Int64} {hF : Nat → Int64} {tF pF cF : Nat → Int32} {zF : Nat → Int64} {kd ld sh fo si g la : Nat → Nat}
theorem NK.rate {k : Nat} (h : NK t ar hF kd ld sh fo si k) (hR : NR ar tF g la) : ∃ q : Nat, q ≤ 30 ∧ rD (ar 1) (ar 5 k) = nI q := by
  obtain ⟨⟨_, e5, _⟩, _, hk, _⟩ := h
  rw [e5]
  rcases hk with ⟨_, e0⟩ | ⟨_, h1, h6⟩
  · rw [e0, rD_0]
    exact ⟨30, Nat.le_refl 30, rfl⟩
  · rw [rD_N _ h1 h6]
    obtain ⟨⟨a, _, b⟩, _⟩ := hR (ld k - 1) (by omega)
    exact ⟨_, b, a⟩
/-- the treaty rate of a person or company -/
theorem NK.own {k : Nat} (h : NK t ar hF kd ld sh fo si k) (hR : NR ar tF g la) (ht : t ≤ 20000) (hk : kd k < 2) : ownF (rD (ar 1) (ar 5 k)) (rD (ar 2) (ar 5 k)) (hlg (ar 4 k) (ar 6 k) (ar 8 k) (nI t)) = nI (rtN (lgB (kd k) (sh k) (si k) t) (g (ld k - 1)) (la (ld k - 1))) := by
  obtain ⟨⟨e4, e5, e6, _, e8⟩, _, hk2, hs, _, hi⟩ := h
  rcases hk2 with ⟨z, _⟩ | ⟨_, h1, h6⟩
  · omega
  · obtain ⟨⟨a, _, b⟩, ⟨a2, _, b2⟩⟩ := hR (ld k - 1) (by omega)
    rw [e4, e5, e6, e8, rD_N _ h1 h6, rD_N _ h1 h6, a, a2, hlg_N (by omega) (by omega) (by omega) (by omega), ownF_N (by omega) (by omega)]
/-- shares are set -/
theorem NK.shares {k j v : Nat} (h : NK t ar hF kd ld sh fo si k) (hv : v ≤ 1000000) : NK t (va_up ar 6 (upd (ar 6) j (nI v))) (vp_updL hF j (wtF (hF j) 5 20 (nI v))) kd ld (va_up sh j v) fo si k := by
  obtain ⟨⟨e4, e5, e6, e7, e8⟩, ⟨p0, p2, p5, p25, p40⟩, hk, hs, hf1, hi⟩ := h
  refine ⟨⟨e4, e5, ?_, e7, e8⟩, ?_, hk, ?_, hf1, hi⟩
  · show upd (ar 6) j (nI v) k = nI (va_up sh j v k)
    by_cases c : k = j
    · subst c; rw [upd_eq, va_up_self]
    · rw [upd_ne c, va_up_ne _ _ c]; exact e6
  · by_cases c : k = j
    · subst c
      rw [updL_eq, va_up_self]
      have hv2 : v < 2 ^ 20 := by omega
      exact ⟨(pt_wt2 (by decide) (by decide) hv2 (by decide) (by decide) (by decide)).trans p0, (pt_wt2 (by decide) (by decide) hv2 (by decide) (by decide) (by decide)).trans p2, pt_wt (by decide) (by decide) hv2, (pt_wt2 (by decide) (by decide) hv2 (by decide) (by decide) (by decide)).trans p25, (pt_wt2 (by decide) (by decide) hv2 (by decide) (by decide) (by decide)).trans p40⟩
    · rw [updL_ne c, va_up_ne _ _ c]
      exact ⟨p0, p2, p5, p25, p40⟩
  · by_cases c : k = j
    · subst c; rw [va_up_self]; exact hv
    · rw [va_up_ne _ _ c]; exact hs
theorem Nm.shares (h : Nm n d t ar po rf hF tF pF cF zF kd ld sh fo si g la) {j v : Nat} (hj : j < n) (hv : v ≤ 1000000) (hs : sumN (va_up sh j v) n ≤ 1000000) : Nm n d t (va_up ar 6 (upd (ar 6) j (nI v))) po rf (vp_updL hF j (wtF (hF j) 5 20 (nI v))) tF pF cF zF kd ld (va_up sh j v) fo si g la := by
  obtain ⟨h1, h2, h3, h4, h5, h6, h7, h8⟩ := h
  refine ⟨h1, h2, fun k hk => (h3 k hk).shares hv, hs, h5, fun k hk hk2 => ?_, h7, h8⟩
  obtain ⟨a, b, c⟩ := h6 k hk hk2
  exact ⟨(upd_ne (by omega)).trans a, b, c⟩
/-- a form is given -/
theorem NK.form {k j : Nat} (h : NK t ar hF kd ld sh fo si k) (ht : t ≤ 20000) : NK t (va_up ar 7 (upd (ar 7) j (nI t + 1080))) (vp_updL hF j (wtF (hF j) 25 15 (nI t + 1081))) kd ld sh (va_up fo j (t + 1081)) si k := by
  have e1 : nI t + 1080 = nI (t + 1081) - 1 := by rw [nI_pred]; exact nI_add t 1080
  have e2 : nI t + 1081 = nI (t + 1081) := nI_add t 1081
  rw [e1, e2]
  obtain ⟨⟨e4, e5, e6, e7, e8⟩, ⟨p0, p2, p5, p25, p40⟩, hk, hs, hf1, hi⟩ := h
  refine ⟨⟨e4, e5, e6, ?_, e8⟩, ?_, hk, hs, ?_, hi⟩
  · show upd (ar 7) j _ k = nI (va_up fo j (t + 1081) k) - 1
    by_cases c : k = j
    · subst c; rw [upd_eq, va_up_self]
    · rw [upd_ne c, va_up_ne _ _ c]; exact e7
  · by_cases c : k = j
    · subst c
      rw [updL_eq, va_up_self]
      have hv2 : t + 1081 < 2 ^ 15 := by omega
      exact ⟨(pt_wt2 (by decide) (by decide) hv2 (by decide) (by decide) (by decide)).trans p0, (pt_wt2 (by decide) (by decide) hv2 (by decide) (by decide) (by decide)).trans p2, (pt_wt2 (by decide) (by decide) hv2 (by decide) (by decide) (by decide)).trans p5, pt_wt (by decide) (by decide) hv2, (pt_wt2 (by decide) (by decide) hv2 (by decide) (by decide) (by decide)).trans p40⟩
    · rw [updL_ne c, va_up_ne _ _ c]
      exact ⟨p0, p2, p5, p25, p40⟩
  · by_cases c : k = j
    · subst c; rw [va_up_self]; omega
    · rw [va_up_ne _ _ c]; exact hf1
theorem Nm.form (h : Nm n d t ar po rf hF tF pF cF zF kd ld sh fo si g la) {j : Nat} (hj : j < n) : Nm n d t (va_up ar 7 (upd (ar 7) j (nI t + 1080))) po rf (vp_updL hF j (wtF (hF j) 25 15 (nI t + 1081))) tF pF cF zF kd ld sh (va_up fo j (t + 1081)) si g la := by
  obtain ⟨h1, h2, h3, h4, h5, h6, h7, h8⟩ := h
  refine ⟨h1, h2, fun k hk => (h3 k hk).form h1.2.2, h4, h5, fun k hk hk2 => ?_, h7, h8⟩
  obtain ⟨a, b, c⟩ := h6 k hk hk2
  exact ⟨a, (upd_ne (by omega)).trans b, c⟩
/-- days pass: since when a holding is large, as the law keeps it -/
def siN (sh si : Nat → Nat) (t : Nat) (k : Nat) : Nat := if sh k < 100000 then 0 else if si k = 0 then t + 1 else si k
def hFp (sh si : Nat → Nat) (t : Nat) (hF : Nat → Int64) (i : Nat) : Nat → Int64 := fun k => if k < i then wtF (hF k) 40 15 (nI (siN sh si t k)) else hF k
theorem hFp_0 (sh si : Nat → Nat) (t : Nat) (hF : Nat → Int64) : hFp sh si t hF 0 = hF := by funext k; simp [hFp]
theorem hFp_at (sh si : Nat → Nat) (t : Nat) (hF : Nat → Int64) (i : Nat) : hFp sh si t hF i i = hF i := by simp [hFp]
theorem hFp_1 (sh si : Nat → Nat) (t : Nat) (hF : Nat → Int64) (i : Nat) : vp_updL (hFp sh si t hF i) i (wtF (hF i) 40 15 (nI (siN sh si t i))) = hFp sh si t hF (i + 1) := by
  funext k
  unfold vp_updL hFp
  by_cases c : k = i
  · subst c; simp
  · by_cases c2 : k < i
    · simp [c, c2, show k < i + 1 by omega]
    · simp [c, c2, show ¬ k < i + 1 by omega]
theorem since_N {s q t : Nat} (hs : s ≤ 1000000) (hq : q ≤ 20001) : sinceF (nI s) (nI q - 1) (nI t) = nI (if s < 100000 then 0 else if q = 0 then t + 1 else q) - 1 := by
  unfold sinceF
  by_cases c : 100000 ≤ s
  · rw [if_pos (show 100000 ≤ nI s from nI_le (a := 100000) c (by omega)), if_neg (show ¬ s < 100000 by omega)]
    by_cases c2 : q = 0
    · rw [if_neg (fun z => z ((nIm_eq (by omega)).mpr c2)), if_pos c2, nI_pred]
    · rw [if_pos (fun z => c2 ((nIm_eq (by omega)).mp z)), if_neg c2]
  · rw [if_neg (show ¬ 100000 ≤ nI s from fun z => c ((nI_leI (a := 100000) (by decide) (by omega)).mp z)), if_pos (show s < 100000 by omega), nI_m1]
theorem NK.pass {k q : Nat} (hk : k < n) (h : NK t ar hF kd ld sh fo si k) (hq : 1 ≤ q) (ht : t ≤ 20000) : NK (t + q) (va_up ar 8 (psS (ar 6) (ar 8) (nI t) n)) (hFp sh si t hF n) kd ld sh fo (siN sh si t) k := by
  obtain ⟨⟨e4, e5, e6, e7, e8⟩, ⟨p0, p2, p5, p25, p40⟩, hk2, hs, hf1, hi⟩ := h
  have b : siN sh si t k ≤ t + 1 := by unfold siN; (repeat' split) <;> omega
  refine ⟨⟨e4, e5, e6, e7, ?_⟩, ?_, hk2, hs, hf1, by omega⟩
  · show psS (ar 6) (ar 8) (nI t) n k = _
    unfold psS
    rw [if_pos hk, e6, e8, since_N hs (by omega)]
    rfl
  · have e : hFp sh si t hF n k = wtF (hF k) 40 15 (nI (siN sh si t k)) := if_pos hk
    rw [e]
    have hv2 : siN sh si t k < 2 ^ 15 := by omega
    exact ⟨(pt_wt2 (by decide) (by decide) hv2 (by decide) (by decide) (by decide)).trans p0, (pt_wt2 (by decide) (by decide) hv2 (by decide) (by decide) (by decide)).trans p2, (pt_wt2 (by decide) (by decide) hv2 (by decide) (by decide) (by decide)).trans p5, (pt_wt2 (by decide) (by decide) hv2 (by decide) (by decide) (by decide)).trans p25, pt_wt (by decide) (by decide) hv2⟩
theorem Nm.pass (h : Nm n d t ar po rf hF tF pF cF zF kd ld sh fo si g la) {q : Nat} (hq : 1 ≤ q) (ht : t + q ≤ 20000) {x : Int32} (hx : x = nI (t + q)) : Nm n d (t + q) (va_up ar 8 (psS (ar 6) (ar 8) (nI t) n)) po rf (hFp sh si t hF n) tF pF (upd cF 0 x) zF kd ld sh fo (siN sh si t) g la := by
  obtain ⟨h1, ⟨c0, c1, c2, z0⟩, h3, h4, h5, h6, h7, h8, h9, h10, h11⟩ := h
  refine ⟨⟨h1.1, h1.2.1, ht⟩, ⟨upd_eq.trans hx, (upd_ne (by decide)).trans c1, (upd_ne (by decide)).trans c2, z0⟩, fun k hk => (h3 k hk).pass hk hq h1.2.2, h4, h5, fun k hk hk2 => ?_, h7, h8, h9, fun D hD => ?_, h11⟩
  · obtain ⟨a, b, c⟩ := h6 k hk hk2
    exact ⟨a, b, (if_neg (by omega)).trans c⟩
  · obtain ⟨q2, a, b⟩ := h10 D hD
    exact ⟨q2, by omega, b⟩
/-- a holder is added -/
theorem Nm.adds (h : Nm n d t ar po rf hF tF pF cF zF kd ld sh fo si g la) {K L : Nat} (hn : n < 20) (hK : (K = 2 ∧ L = 0) ∨ (K < 2 ∧ 1 ≤ L ∧ L ≤ 6)) {x : Int64} (hx : ptF x 0 2 = nI K ∧ ptF x 2 3 = nI L ∧ ptF x 5 20 = nI 0 ∧ ptF x 25 15 = nI 0 ∧ ptF x 40 15 = nI 0) {y : Int32} (hy : y = nI (n + 1)) :
    Nm (n + 1) d t (va_up (va_up ar 4 (upd (ar 4) n (nI K))) 5 (upd (ar 5) n (nI L - 1))) po rf (vp_updL hF n x) tF pF (upd cF 1 y) zF (va_up kd n K) (va_up ld n L) (va_up sh n 0) (va_up fo n 0) (va_up si n 0) g la := by
  obtain ⟨h1, ⟨c0, c1, c2, z0⟩, h3, h4, h5, h6, h7, h8, h9, h10, h11⟩ := h
  refine ⟨⟨by omega, h1.2⟩, ⟨(upd_ne (by decide)).trans c0, upd_eq.trans hy, (upd_ne (by decide)).trans c2, z0⟩, fun k hk => ?_, ?_, h5, fun k hk hk2 => h6 k (by omega) hk2, fun i j hi hj => ?_, h8, h9, h10, fun D j hD hj => ?_⟩
  · by_cases c : k = n
    · subst c
      obtain ⟨a, b, e⟩ := h6 k (Nat.le_refl k) hn
      refine ⟨⟨?_, ?_, ?_, ?_, ?_⟩, ?_, ?_, ?_, ?_, ?_⟩
      · show upd (ar 4) k (nI K) k = _
        rw [upd_eq, va_up_self]
      · show upd (ar 5) k (nI L - 1) k = _
        rw [upd_eq, va_up_self]
      · rw [va_up_self]; exact a
      · rw [va_up_self, nI_m1]; exact b
      · rw [va_up_self, nI_m1]; exact e
      · rw [updL_eq, va_up_self, va_up_self, va_up_self, va_up_self, va_up_self]
        exact hx
      · rw [va_up_self, va_up_self]
        exact hK
      · rw [va_up_self]; omega
      · rw [va_up_self]; omega
      · rw [va_up_self]; omega
    · have h3 := h3 k (by omega)
      unfold NK at *
      rw [updL_ne c, va_up_ne _ _ c, va_up_ne _ _ c, va_up_ne _ _ c, va_up_ne _ _ c, va_up_ne _ _ c]
      refine ⟨⟨?_, ?_, h3.1.2.2⟩, h3.2⟩
      · show upd (ar 4) n (nI K) k = _
        rw [upd_ne c]
        exact h3.1.1
      · show upd (ar 5) n (nI L - 1) k = _
        rw [upd_ne c]
        exact h3.1.2.1
  · show sumN (va_up sh n 0) n + va_up sh n 0 n ≤ _
    rw [sumN_up_hi, va_up_self]
    exact h4
  · obtain ⟨q, a, b, c⟩ := h7 i j hi hj
    exact ⟨q, a, b, fun z => c (by omega)⟩
  · rcases h11 D j hD hj with z | ⟨hj2, z⟩
    · exact Or.inl z
    · refine Or.inr ⟨by omega, ?_⟩
      have e4 : upd (ar 4) n (nI K) j = ar 4 j := upd_ne (by omega)
      obtain ⟨A, H, D2, a1, a2, a3, a4, a5, a6, a7, a8, a9⟩ := z
      exact ⟨A, H, D2, a1, a2, a3, a4, a5, a6, a7, a8, fun w => a9 (fun v => w (e4.trans v))⟩
/-- a treaty is set -/
theorem Nm.treaty (h : Nm n d t ar po rf hF tF pF cF zF kd ld sh fo si g la) {k a b : Nat} (hk : k < 6) (ha : a ≤ 30) (hb : b ≤ 30) : Nm n d t (va_up (va_up ar 1 (upd (ar 1) k (nI a))) 2 (upd (ar 2) k (nI b))) po rf hF (upd (upd tF (2 * k) (nI a)) (2 * k + 1) (nI b)) pF cF zF kd ld sh fo si (va_up g k a) (va_up la k b) := by
  obtain ⟨h1, h2, h3, h4, h5, h6, h7, h8⟩ := h
  refine ⟨h1, h2, h3, h4, fun j hj => ?_, h6, h7, h8⟩
  obtain ⟨⟨a1, a2, a3⟩, ⟨b1, b2, b3⟩⟩ := h5 j hj
  by_cases c : j = k
  · subst c
    refine ⟨⟨?_, ?_, ?_⟩, ⟨?_, ?_, ?_⟩⟩
    · show upd (ar 1) j (nI a) j = _
      rw [upd_eq, va_up_self]
    · rw [upd_ne (by omega), upd_eq, va_up_self]
    · rw [va_up_self]; exact ha
    · show upd (ar 2) j (nI b) j = _
      rw [upd_eq, va_up_self]
    · rw [upd_eq, va_up_self]
    · rw [va_up_self]; exact hb
  · refine ⟨⟨?_, ?_, ?_⟩, ⟨?_, ?_, ?_⟩⟩
    · show upd (ar 1) k (nI a) j = _
      rw [upd_ne c, va_up_ne _ _ c]; exact a1
    · rw [upd_ne (by omega), upd_ne (by omega), va_up_ne _ _ c]; exact a2
    · rw [va_up_ne _ _ c]; exact a3
    · show upd (ar 2) k (nI b) j = _
      rw [upd_ne c, va_up_ne _ _ c]; exact b1
    · rw [upd_ne (by omega), upd_ne (by omega), va_up_ne _ _ c]; exact b2
    · rw [va_up_ne _ _ c]; exact b3
/-- parts are set -/
theorem Nm.parts (h : Nm n d t ar po rf hF tF pF cF zF kd ld sh fo si g la) {i j q : Nat} (hi : i < n) (hj : j < n) (hq : q ≤ 100) : Nm n d t (va_up ar 9 (upd (ar 9) (20 * i + j) (nI q))) po rf hF tF pF cF zF kd ld sh fo si g la := by
  obtain ⟨h1, h2, h3, h4, h5, h6, h7, h8⟩ := h
  refine ⟨h1, h2, h3, h4, h5, h6, fun i2 j2 hi2 hj2 => ?_, h8⟩
  show ∃ q2 : Nat, q2 ≤ 100 ∧ upd (ar 9) (20 * i + j) (nI q) (20 * i2 + j2) = nI q2 ∧ _
  by_cases c : 20 * i2 + j2 = 20 * i + j
  · rw [c, upd_eq]
    exact ⟨q, hq, rfl, fun z => by omega⟩
  · rw [upd_ne c]
    exact h7 i2 j2 hi2 hj2
/-- the day of the next dividend is noted -/
theorem Nm.pday (h : Nm n d t ar po rf hF tF pF cF zF kd ld sh fo si g la) (x : Int32) : Nm n d t ar po rf hF tF (upd pF d x) cF zF kd ld sh fo si g la := by
  obtain ⟨h1, h2, h3, h4, h5, h6, h7, h8, h9, h10, h11⟩ := h
  refine ⟨h1, h2, h3, h4, h5, h6, h7, h8, h9, fun D hD => ?_, h11⟩
  rw [upd_ne (by omega)]
  exact h10 D hD
end NUM
