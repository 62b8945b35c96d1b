/-! ===== the desk's changes, as the law makes them ===== -/
def Inv (G : hv_G) (aa : Nat → Nat) (o : Nat) (J : hv) : Prop := ∃ (n d t : Nat) (hF : Nat → Int64) (tF pF cF : Nat → Int32) (zF : Nat → Int64) (kd ld sh fo si g la : Nat → Nat) (ad : Nat → Nat → Nat) (rf : Int64) (ar : AR) (fm : Nat → Int32) (po : PO), ad 0 0 = o ∧ isD G (cut aa J) ad n d d (nI t) rf ar fm po ∧ LV G aa J hF tF pF cF zF ∧ Nm n d t ar po rf hF tF pF cF zF kd ld sh fo si g la
theorem inv_mk {G : hv_G} {aa : Nat → Nat} {J : hv} {n d t : Nat} {hF : Nat → Int64} {tF pF cF : Nat → Int32} {zF : Nat → Int64} {kd ld sh fo si g la : Nat → Nat} {ad : Nat → Nat → Nat} {rf : Int64} {ar : AR} {fm : Nat → Int32} {po : PO} (hD : isD G (cut aa J) ad n d d (nI t) rf ar fm po) (hN : Nm n d t ar po rf hF tF pF cF zF kd ld sh fo si g la) (hL : LV G aa J hF tF pF cF zF) : Inv G aa (ad 0 0) J := ⟨n, d, t, hF, tF, pF, cF, zF, kd, ld, sh, fo, si, g, la, ad, rf, ar, fm, po, rfl, hD, hL, hN⟩
section MUT
variable {n d t : Nat} {ar : AR} {po : PO} {rf : Int64} {hF : Nat → Int64} {tF pF cF : Nat → Int32} {zF : Nat → Int64} {kd ld sh fo si g la : Nat → Nat} {ad : Nat → Nat → Nat} {dl : Nat} {dy : Int32} {fm : Nat → Int32} {aa : Nat → Nat}
theorem k_addHolder (l : Launch) (hlt : l.stackTraces = false) (G : hv_G) (h : hv) (sz : Nat) (hD : isD G h ad n d dl dy rf ar fm po) (hn : n < 20) (hz : ar 6 n = 0 ∧ ar 7 n = -1 ∧ ar 8 n = -1 ∧ ∀ k, k < 20 → ar 9 (20 * n + k) = 0) {K L : Nat} (hK : (K = 2 ∧ L = 0) ∨ (K < 2 ∧ 1 ≤ L ∧ L ≤ 6)) :
    hv_Mi l yX4_addHolder wsX4_addHolder 10 350 3 75 G h sz [.ref (ad 0 0), .int (nI K), .int (nI L - 1)] (fun r u => r = nI n ∧ ∃ ad2, ad2 0 0 = ad 0 0 ∧ isD G u ad2 (n + 1) d dl dy rf (va_up (va_up ar 4 (upd (ar 4) n (nI K))) 5 (upd (ar 5) n (nI L - 1))) fm po) := by
  have hf0 : fAh (nI K) (nI L - 1) n = 0 := by
    unfold fAh
    have c20 : ¬ nI n = 20 := fun z => by have := (nI_eq (a := n) (b := 20) (by omega) (by decide)).mp z; omega
    have cK : ¬ iw (nI K) 0 2 = 0 := iw_inc (lo := 0) (hi := 2) (Nat.zero_le _) (by omega) (by decide)
    rw [if_neg cK]
    rcases hK with ⟨a, b⟩ | ⟨a, b, e⟩
    · rw [if_pos (show nI K = 2 by rw [a]; rfl), if_pos (show nI L - 1 = -1 by rw [b]; exact nI_m1), if_neg c20]
    · have c2 : ¬ nI K = 2 := fun z => by have := (nI_eq (a := K) (b := 2) (by omega) (by decide)).mp z; omega
      obtain ⟨q, rfl⟩ : ∃ q, L = q + 1 := ⟨L - 1, by omega⟩
      have cL : ¬ iw (nI (q + 1) - 1) 0 5 = 0 := by
        rw [nI_pred]
        exact iw_inc (lo := 0) (hi := 5) (Nat.zero_le _) (by omega) (by decide)
      rw [if_neg c2, if_neg cL, if_neg c20]
  refine hv_m0i (c_X4_addHolder l hlt G h sz hD (nI K) (nI L - 1) (by omega) (fun _ => hz)) (fun r u z => ⟨z.2.1, z.2.2⟩) (fun E u z => ?_)
  rcases z with ⟨_, ⟨z, _⟩ | ⟨z, _⟩⟩
  · exact one_ne (hf0.symm.trans z)
  · exact two_ne (hf0.symm.trans z)
theorem k_setTreaty (l : Launch) (hlt : l.stackTraces = false) (G : hv_G) (h : hv) (sz : Nat) (hD : isD G h ad n d dl dy rf ar fm po) {k a b : Nat} (hk : k < 6) (ha : a ≤ 30) (hb : b ≤ 30) {v : Int32} (ev : ar 1 k = v) :
    hv_Mi l yX4_setTreaty wsX4_setTreaty 7 200 2 12 G h sz [.ref (ad 0 0), .int (nI k), .int (nI a), .int (nI b)] (fun r u => r = v ∧ isD G u ad n d dl dy rf (va_up (va_up ar 1 (upd (ar 1) k (nI a))) 2 (upd (ar 2) k (nI b))) fm po) := by
  have c1 : ¬ iw (nI k) 0 5 = 0 := iw_inc (lo := 0) (hi := 5) (Nat.zero_le _) (by omega) (by decide)
  have c2 : ¬ iw (nI a) 0 30 = 0 := iw_inc (lo := 0) (hi := 30) (Nat.zero_le _) ha (by decide)
  have c3 : ¬ iw (nI b) 0 30 = 0 := iw_inc (lo := 0) (hi := 30) (Nat.zero_le _) hb (by decide)
  have hf0 : fTr (nI k) (nI a) (nI b) = 0 := by
    unfold fTr
    rw [if_neg c1, if_neg c2, if_neg c3]
  have h0 := c_X4_setTreaty l hlt G h sz hD (nI k) (nI a) (nI b)
  rw [nI_clamp (show k < 2 ^ 31 by omega)] at h0
  refine hv_m0i h0 (fun r u z => ⟨z.2.1.trans ev, z.2.2⟩) (fun E u z => ?_)
  rcases z with ⟨_, z, _⟩
  exact one_ne (hf0.symm.trans z)
theorem k_giveForm (l : Launch) (hlt : l.stackTraces = false) (G : hv_G) (h : hv) (sz : Nat) (hD : isD G h ad n d dl dy rf ar fm po) (hn : n ≤ 20) {j : Nat} (hj : j < n) :
    hv_Mi l yX4_giveForm wsX4_giveForm 8 200 2 12 G h sz [.ref (ad 0 0), .int (nI j)] (fun r u => r = dy + 1080 ∧ isD G u ad n d dl dy rf (va_up ar 7 (upd (ar 7) j (dy + 1080))) fm po) := by
  have hf0 : fGf (nI j) n = 0 := if_neg (iw_in hj (by omega))
  have h0 := c_X4_giveForm l hlt G h sz hD (nI j) hn
  rw [nI_clamp (show j < 2 ^ 31 by omega)] at h0
  refine hv_m0i h0 (fun r u z => ⟨z.2.1, z.2.2⟩) (fun E u z => ?_)
  rcases z with ⟨_, z, _⟩
  exact one_ne (hf0.symm.trans z)
theorem k_setParts (l : Launch) (hlt : l.stackTraces = false) (G : hv_G) (h : hv) (sz : Nat) (hD : isD G h ad n d dl dy rf ar fm po) (hn : n ≤ 20) {i j q : Nat} (hi : i < n) (hj : j < n) (h2 : ar 4 i = 2) (h1 : ¬ ar 4 j = 2) (hq : q ≤ 100) {v : Int32} (ev : ar 9 (20 * i + j) = v) :
    hv_Mi l yX4_setParts wsX4_setParts 8 300 3 18 G h sz [.ref (ad 0 0), .int (nI i), .int (nI j), .int (nI q)] (fun r u => r = v ∧ isD G u ad n d dl dy rf (va_up ar 9 (upd (ar 9) (20 * i + j) (nI q))) fm po) := by
  have cq : ¬ iw (nI q) 0 100 = 0 := iw_inc (lo := 0) (hi := 100) (Nat.zero_le _) hq (by decide)
  have hf0 : fSp (nI i) (nI j) (nI q) n (ar 4) = 0 := by
    unfold fSp
    rw [if_neg (iw_in hi (by omega)), if_neg (iw_in hj (by omega)), nI_clamp (by omega), nI_clamp (by omega), if_neg (fun z => z h2), if_neg h1, if_neg cq]
  have h0 := c_X4_setParts l hlt G h sz hD (nI i) (nI j) (nI q) hn
  rw [nI_clamp (show i < 2 ^ 31 by omega), nI_clamp (show j < 2 ^ 31 by omega)] at h0
  refine hv_m0i h0 (fun r u z => ⟨z.2.1.trans ev, z.2.2⟩) (fun E u z => ?_)
  rcases z with ⟨_, ⟨z, _⟩ | ⟨z, _⟩⟩
  · exact one_ne (hf0.symm.trans z)
  · exact two_ne (hf0.symm.trans z)
theorem k_pass (l : Launch) (hlt : l.stackTraces = false) (G : hv_G) (h : hv) (sz : Nat) (hD : isD G h ad n d dl (nI t) rf ar fm po) (hn : n ≤ 20) {q : Nat} (h1 : 1 ≤ q) (h2 : q ≤ 2000) (ht : t + q ≤ 20000) :
    hv_Mi l yX4_pass wsX4_pass 7 200 2 12 G h sz [.ref (ad 0 0), .int (nI q)] (fun r u => r = nI (t + q) ∧ isD G u ad n d dl (nI (t + q)) rf (va_up ar 8 (psS (ar 6) (ar 8) (nI t) n)) fm po) := by
  have cq : ¬ iw (nI q) 1 2000 = 0 := iw_inc (lo := 1) (hi := 2000) h1 h2 (by decide)
  have hf0 : fPs (nI q) (nI t) = 0 := by
    unfold fPs
    rw [if_neg cq, nI_add, if_pos (show nI (t + q) ≤ 20000 from nI_le (b := 20000) ht (by decide))]
  have h0 := c_X4_pass l hlt G h sz hD (nI q) hn
  rw [nI_add] at h0
  refine hv_m0i h0 (fun r u z => ⟨z.2.1, z.2.2⟩) (fun E u z => ?_)
  rcases z with ⟨_, ⟨z, _⟩ | ⟨z, _⟩⟩
  · exact one_ne (hf0.symm.trans z)
  · exact two_ne (hf0.symm.trans z)
theorem sh_sum (h3 : ∀ k, k < n → NK t ar hF kd ld sh fo si k) : l_sum (ar 6) n = nI (sumN sh n) := l_sum_N (fun i hi => (h3 i hi).1.2.2.1)
theorem fSs_N (hN : Nm n d t ar po rf hF tF pF cF zF kd ld sh fo si g la) {k v : Nat} (hk : k < n) (hv : v ≤ 1000000) : fSs (nI k) (nI v) n (ar 6) = if sumN (va_up sh k v) n ≤ 1000000 then 0 else 3 := by
  obtain ⟨⟨bn, _, _⟩, _, h3, h4, _⟩ := hN
  have cv : ¬ iw (nI v) 0 1000000 = 0 := iw_inc (lo := 0) (hi := 1000000) (Nat.zero_le _) hv (by decide)
  have u := sumN_upd sh k v n
  rw [if_pos hk, if_pos hk] at u
  have u2 := sumN_at sh hk
  unfold fSs
  rw [if_neg (iw_in hk (by omega)), if_neg cv, nI_clamp (by omega), sh_sum h3, (h3 k hk).1.2.2.1, pk_sub u2, nI_add, show sumN sh n - sh k + v = sumN (va_up sh k v) n by omega]
  by_cases c : sumN (va_up sh k v) n ≤ 1000000
  · rw [if_pos c, if_pos (show nI (sumN (va_up sh k v) n) ≤ 1000000 from nI_le (b := 1000000) c (by decide))]
  · rw [if_neg c, if_neg (show ¬ nI (sumN (va_up sh k v) n) ≤ 1000000 from fun z => c ((nI_leI (b := 1000000) (by omega) (by decide)).mp z))]
theorem a_setShares (l : Launch) (hlt : l.stackTraces = false) (G : hv_G) (h : hv) (sz : Nat) (hD : isD G (cut aa h) ad n d d (nI t) rf ar fm po) (hA : lvA aa h) (hN : Nm n d t ar po rf hF tF pF cF zF kd ld sh fo si g la) {k v : Nat} (hk : k < n) (hv : v ≤ 1000000) :
    hv_Mi l yL_asks wsL_asks 13 450 2 12 G h sz [.ref (ad 0 0), .int 2, .int (nI k), .int (nI v)] (fun r u => (∀ x, inA aa x → u x = h x) ∧ ((sumN (va_up sh k v) n ≤ 1000000 ∧ r = nI (sh k) ∧ isD G (cut aa u) ad n d d (nI t) rf (va_up ar 6 (upd (ar 6) k (nI v))) fm po) ∨ (¬ sumN (va_up sh k v) n ≤ 1000000 ∧ r = -8 ∧ isD G (cut aa u) ad n d d (nI t) rf ar fm po))) := by
  have hF := fSs_N hN hk hv
  have bn := hN.1.1
  have e6 := (hN.2.2.1 k hk).1.2.2.1
  have h0 := c_L_asks_setShares l hlt G h sz hD hA (nI k) (nI v) bn (by rw [hF]; split <;> decide) (by rw [hF]; split <;> decide)
  rw [nI_clamp (show k < 2 ^ 31 by omega)] at h0
  refine hv_m0i h0 (fun r u z => ⟨z.1, ?_⟩) (fun E u z => z)
  rcases z.2 with ⟨a, b, c⟩ | ⟨a, b, c⟩
  · rw [hF] at a
    refine Or.inl ⟨Classical.byContradiction (fun w => ?_), b.trans e6, c⟩
    rw [if_neg w] at a
    exact absurd a (by decide)
  · rw [hF] at a
    exact Or.inr ⟨fun w => a (if_pos w), b, c⟩
theorem fPy_N (hN : Nm n d t ar po rf hF tF pF cF zF kd ld sh fo si g la) {ce : Nat} (h1 : 1 ≤ ce) (hc : ce ≤ 1000) : fPy (nI ce) d (l_sum (ar 6) n) = if sumN sh n = 0 then 2 else 0 := by
  obtain ⟨⟨bn, bd, _⟩, _, h3, h4, _⟩ := hN
  have cc : ¬ iw (nI ce) 1 1000 = 0 := iw_inc (lo := 1) (hi := 1000) h1 hc (by decide)
  have c40 : ¬ nI d = 40 := fun z => by have := (nI_eq (a := d) (b := 40) (by omega) (by decide)).mp z; omega
  unfold fPy
  rw [if_neg cc, if_neg c40, sh_sum h3]
  by_cases c : sumN sh n = 0
  · rw [if_pos c, c]
    exact if_pos rfl
  · rw [if_neg c, if_neg (nI_ne0 (by omega) (by omega))]
theorem a_pay (l : Launch) (hlt : l.stackTraces = false) (G : hv_G) (h : hv) (sz : Nat) (hD : isD G (cut aa h) ad n d d (nI t) rf ar fm po) (hA : lvA aa h) (hN : Nm n d t ar po rf hF tF pF cF zF kd ld sh fo si g la) {ce : Nat} (h1 : 1 ≤ ce) (hc : ce ≤ 1000) (p1 : Int32) :
    hv_Mi l yL_asks wsL_asks 13 450 503 2332 G h sz [.ref (ad 0 0), .int 3, .int (nI ce), .int p1] (fun r u => (∀ x, inA aa x → u x = h x) ∧ ((¬ sumN sh n = 0 ∧ r = nI d ∧ ∃ ad2, ad2 0 0 = ad 0 0 ∧ isD G (cut aa u) ad2 n (d + 1) (d + 1) (nI t) rf (ARP ar t n d ce (vfm (nI t) (ar 7) n)) (va_up fm d (vfm (nI t) (ar 7) n)) (POP ar po t n d ce)) ∨ (sumN sh n = 0 ∧ r = -8 ∧ isD G (cut aa u) ad n d d (nI t) rf ar fm po))) := by
  have hF := fPy_N hN h1 hc
  have bn := hN.1.1
  have bd := hN.1.2.1
  have h3 := hN.2.2.1
  obtain ⟨h8, h9, _⟩ := hN.2.2.2.2.2.2.2
  have h0 := c_L_asks_pay l hlt G h sz hD hA (nI ce) p1 bn (by omega) (fun _ j hj => h8 _ (by omega) (by omega)) h9 (fun _ k hk => by
    obtain ⟨e, hA9⟩ := cents_N (h3 k hk) hc
    rw [e, (h3 k hk).1.2.2.1]
    have hs := (h3 k hk).2.2.2.1
    rw [show (0 : Int32) = nI 0 from rfl, nI_leI (by omega) (by decide), nI_eq (by omega) (by decide)]
    constructor
    · intro z
      rw [show sh k = 0 by omega, Nat.zero_mul]
    · intro z
      rcases Nat.mul_eq_zero.mp z with w | w <;> omega) (by rw [hF]; split <;> decide)
  refine hv_m0i h0 (fun r u z => ⟨z.1, ?_⟩) (fun E u z => z)
  rcases z.2 with ⟨a, b, c⟩ | ⟨a, b, c⟩
  · rw [hF] at a
    refine Or.inl ⟨fun w => ?_, b, c⟩
    rw [if_pos w] at a
    exact absurd a (by decide)
  · rw [hF] at a
    exact Or.inr ⟨Classical.byContradiction (fun w => a (if_neg w)), b, c⟩
/-- a quick refund, asked for -/
theorem a_refund (l : Launch) (hlt : l.stackTraces = false) (G : hv_G) (h : hv) (sz : Nat) (hD : isD G (cut aa h) ad n d d (nI t) rf ar fm po) (hA : lvA aa h) (hN : Nm n d t ar po rf hF tF pF cF zF kd ld sh fo si g la) {D j q A H D2 : Nat} (hDd : D < d) (hj : j < n) (eq : ar 11 D = nI q) (hq : q ≤ t)
    (w1 : (if ar 12 (20 * D + j) = 0 then 0 else ar 13 (20 * D + j)) = nI H) (w2 : (if ar 12 (20 * D + j) = 0 then 0 else tall (po (20 * D + j)) (-1)) = nI D2) (w3 : ar 12 (20 * D + j) = nI A) (w4 : A ≤ 1000000000) (w5 : D2 ≤ H) (w6 : H ≤ A * 30 / 100) :
    hv_Mi l yL_asks wsL_asks 13 450 8 48 G h sz [.ref (ad 0 0), .int 0, .int (nI D), .int (nI j)] (fun r u => (∀ x, inA aa x → u x = h x) ∧ (((0 < A ∧ t - q ≤ 60) ∧ ∃ T : Nat, D2 ≤ T ∧ T < 2 ^ 30 ∧ (kd j < 2 → t < fo j → T = D2) ∧ tall (po (20 * D + j)) (fm D ||| vfm (nI t) (ar 7) n) = nI T ∧ r = nI (H - T) ∧ isD G (cut aa u) ad n d d (nI t) (rf + (nI (H - T)).toInt64) (va_up ar 13 (upd (ar 13) (20 * D + j) (nI (H - (H - T))))) fm po) ∨ (¬ (0 < A ∧ t - q ≤ 60) ∧ r = -8 ∧ isD G (cut aa u) ad n d d (nI t) rf ar fm po))) := by
  obtain ⟨⟨bn, bd, bt⟩, _, h3, _, _, _, _, hP⟩ := id hN
  have hF := fRf_N hDd bd hj bn eq hq bt
  have h0 := c_L_asks_refund l hlt G h sz hD hA (nI D) (nI j) bn (by omega) hP.2.1 (by rw [hF]; split; decide; split <;> decide)
  rw [nI_clamp (show D < 2 ^ 31 by omega), nI_clamp (show j < 2 ^ 31 by omega)] at h0
  refine hv_m0i h0 (fun r u z => ⟨z.1, ?_⟩) (fun E u z => z)
  have hg : ar 12 (20 * D + j) = 0 ↔ A = 0 := by
    rw [w3]
    exact nI_eq (b := 0) (by omega) (by decide)
  rcases z.2 with ⟨a, b, c⟩ | ⟨a, b, c⟩
  · rw [hF] at a
    have ca : ¬ ar 12 (20 * D + j) = 0 := fun w => by
      rw [if_pos w] at a
      exact absurd a (by decide)
    rw [if_neg ca] at a w1 w2
    have cb : t - q ≤ 60 := Classical.byContradiction (fun w => by
      rw [if_neg w] at a
      exact absurd a (by decide))
    obtain ⟨hjn, A2, H2, D3, b1, b2, b3, b4, b5, b6, b7, b8, b9⟩ := hN.py hDd (by omega) ca
    have eA : A2 = A := (nI_eq (by omega) (by omega)).mp (b3.symm.trans w3)
    subst eA
    obtain ⟨T, D4, t1, t2, t3, t4⟩ := PG_tax b5 b2 (fm D ||| vfm (nI t) (ar 7) n)
    have eD : D4 = D2 := (nI_eq (by omega) (by omega)).mp (t2.symm.trans w2)
    subst eD
    obtain ⟨l1, _⟩ := lowF_N (H := H) (T := T) (by omega) (by omega)
    rw [t1, w1, l1] at b c
    rw [pk_sub (show H - T ≤ H by omega)] at c
    refine Or.inl ⟨⟨b1, cb⟩, T, t3, by omega, fun k2 vf => ?_, t1, b, c⟩
    have n4 : ¬ ar 4 j = 2 := fun z => by
      rw [(h3 j hj).1.1] at z
      have := (nI_eq (a := kd j) (b := 2) (by omega) (by decide)).mp z
      omega
    obtain ⟨e, r2, hp⟩ := b9 n4
    have bt2 := tax_all (f := fm D ||| vfm (nI t) (ar 7) n) (D := D) (show j < 20 by omega) hp (by
      show (fm D ||| vfm (nI t) (ar 7) n).toBitVec.getLsbD j = true
      rw [or_bit, Bool.or_eq_true]
      exact Or.inr ((bit_form h3 bn bt hj).mpr vf))
    exact (nI_eq (by omega) (by omega)).mp (t1.symm.trans (bt2.trans t2))
  · rw [hF] at a
    refine Or.inr ⟨fun w => a ?_, b, c⟩
    rw [if_neg (fun z => by have := hg.mp z; omega), if_pos w.2]
/-- a claim, made -/
theorem a_claim (l : Launch) (hlt : l.stackTraces = false) (G : hv_G) (h : hv) (sz : Nat) (hD : isD G (cut aa h) ad n d d (nI t) rf ar fm po) (hA : lvA aa h) (hN : Nm n d t ar po rf hF tF pF cF zF kd ld sh fo si g la) {D j q A H D2 : Nat} (hDd : D < d) (hj : j < n) (eq : ar 11 D = nI q) (hq : q ≤ t)
    (w1 : (if ar 12 (20 * D + j) = 0 then 0 else ar 13 (20 * D + j)) = nI H) (w2 : (if ar 12 (20 * D + j) = 0 then 0 else tall (po (20 * D + j)) (-1)) = nI D2) (w3 : ar 12 (20 * D + j) = nI A) (w4 : A ≤ 1000000000) (w5 : D2 ≤ H) (w6 : H ≤ A * 30 / 100) :
    hv_Mi l yL_asks wsL_asks 13 450 8 48 G h sz [.ref (ad 0 0), .int 1, .int (nI D), .int (nI j)] (fun r u => (∀ x, inA aa x → u x = h x) ∧ (((0 < A ∧ t - q ≤ 1080 ∧ t < fo j) ∧ ∃ T : Nat, D2 ≤ T ∧ T < 2 ^ 30 ∧ T = D2 ∧ tall (po (20 * D + j)) (-1) = nI T ∧ r = nI (H - T) ∧ isD G (cut aa u) ad n d d (nI t) (rf + (nI (H - T)).toInt64) (va_up ar 13 (upd (ar 13) (20 * D + j) (nI (H - (H - T))))) fm po) ∨ (¬ (0 < A ∧ t - q ≤ 1080 ∧ t < fo j) ∧ r = -8 ∧ isD G (cut aa u) ad n d d (nI t) rf ar fm po))) := by
  obtain ⟨⟨bn, bd, bt⟩, _, h3, _, _, _, _, hP⟩ := id hN
  have hF := fCl_N (fo := fo) hDd bd hj bn eq hq bt (h3 j hj).1.2.2.2.1 (h3 j hj).2.2.2.2.1
  have h0 := c_L_asks_claim l hlt G h sz hD hA (nI D) (nI j) bn (by omega) hP.2.1 (by rw [hF]; split; decide; split; split <;> decide; decide)
  rw [nI_clamp (show D < 2 ^ 31 by omega), nI_clamp (show j < 2 ^ 31 by omega)] at h0
  refine hv_m0i h0 (fun r u z => ⟨z.1, ?_⟩) (fun E u z => z)
  have hg : ar 12 (20 * D + j) = 0 ↔ A = 0 := by
    rw [w3]
    exact nI_eq (b := 0) (by omega) (by decide)
  rcases z.2 with ⟨a, b, c⟩ | ⟨a, b, c⟩
  · rw [hF] at a
    have ca : ¬ ar 12 (20 * D + j) = 0 := fun w => by
      rw [if_pos w] at a
      exact absurd a (by decide)
    rw [if_neg ca] at a w1 w2
    have cb : t - q ≤ 1080 := Classical.byContradiction (fun w => by
      rw [if_neg w] at a
      exact absurd a (by decide))
    rw [if_pos cb] at a
    have cc : t < fo j := Classical.byContradiction (fun w => by
      rw [if_neg w] at a
      exact absurd a (by decide))
    obtain ⟨l1, _⟩ := lowF_N (H := H) (T := D2) (by omega) (by omega)
    rw [w2, w1, l1] at b c
    rw [pk_sub (show H - D2 ≤ H by omega)] at c
    exact Or.inl ⟨⟨by have : ¬ A = 0 := fun z => ca (hg.mpr z); omega, cb, cc⟩, D2, Nat.le_refl _, by omega, rfl, w2, b, c⟩
  · rw [hF] at a
    refine Or.inr ⟨fun w => a ?_, b, c⟩
    rw [if_neg (fun z => by have := hg.mp z; omega), if_pos w.2.1, if_pos w.2.2]
end MUT
theorem updL_same (f : Nat → Int64) (k : Nat) : vp_updL f k (f k) = f := by
  funext j
  unfold vp_updL
  by_cases c : j = k
  · rw [if_pos c, c]
  · rw [if_neg c]
