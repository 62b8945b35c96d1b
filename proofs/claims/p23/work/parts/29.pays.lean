/-! ===== a pay day and a refund, in numbers ===== -/
section PAYN
variable {n d t : Nat} {ar : AR} {po : PO} {rf : Int64} {hF : Nat → Int64} {tF pF cF : Nat → Int32} {zF : Nat → Int64} {kd ld sh fo si g la : Nat → Nat}
theorem PY.cg {n2 m j : Nat} {ar2 : AR} {po2 : PO} (h : PY n ar po m j) (hn : n ≤ n2) (e12 : ar2 12 m = ar 12 m) (e13 : ar2 13 m = ar 13 m) (e4 : ar2 4 j = ar 4 j) (ep : po2 m = po m) : PY n2 ar2 po2 m j := by
  unfold PY
  rw [e12, e13, e4, ep]
  rcases h with z | ⟨hj, z⟩
  · exact Or.inl z
  · exact Or.inr ⟨by omega, z⟩
/-- the portions of holder j on a pay day -/
theorem pay_po (h3 : ∀ k, k < n → NK t ar hF kd ld sh fo si k) (hR : NR ar tF g la) (hQ : NQ n ar) (hn : n ≤ 20) (ht : t ≤ 20000) {j A : Nat} (hj : j < n) (hA : A ≤ 1000000000) :
    PG (mkP (nI t) n ar j (nI A)) A ∧ (kd j < 2 → mkP (nI t) n ar j (nI A) = [(nI A, nI (rtN (lgB (kd j) (sh j) (si j) t) (g (ld j - 1)) (la (ld j - 1))), foB j)]) := by
  have hNK := h3 j hj
  have hk : kd j < 2 ∨ ar 4 j = 2 := by
    rcases hNK.2.2.1 with ⟨a, _⟩ | ⟨a, _⟩
    · exact Or.inr (by rw [hNK.1.1, a]; rfl)
    · exact Or.inl a
  have n2 : kd j < 2 → ¬ ar 4 j = 2 := fun a z => by
    rw [hNK.1.1] at z
    have := (nI_eq (a := kd j) (b := 2) (by omega) (by decide)).mp z
    omega
  refine ⟨?_, fun a => ?_⟩
  · have ch : ∀ k : Nat, ∃ q : Nat, k < 20 → q ≤ 100 ∧ prow (ar 9) j k = nI q ∧ (n ≤ k → q = 0) := fun k => by
      by_cases c : k < 20
      · obtain ⟨q, a, b, e⟩ := hQ j k (by omega) c
        exact ⟨q, fun _ => ⟨a, by unfold prow; rw [if_pos c]; exact b, fun z => e (Or.inr z)⟩⟩
      · exact ⟨0, fun z => absurd z c⟩
    obtain ⟨p, hp⟩ := Classical.skolem.mp ch
    exact mkP_PG hA hn (fun k hk => (hp k hk).2.1) (fun k hk => (hp k hk).1) (fun k h1 h2 => (hp k h2).2.2 h1) (fun k hk => (h3 k hk).rate hR) (fun c => by
      rcases hk with a | a
      · rw [hNK.own hR ht a]
        refine ⟨_, rtN_le ?_, rfl⟩
        rcases hNK.2.2.1 with ⟨z, _⟩ | ⟨_, h1, h6⟩
        · omega
        · exact (hR (ld j - 1) (by omega)).1.2.2
      · exact absurd a c)
  · unfold mkP
    rw [if_neg (n2 a), hNK.own hR ht a]
/-- forms that are valid are in their mask -/
theorem bit_form (h3 : ∀ k, k < n → NK t ar hF kd ld sh fo si k) (hn : n ≤ 20) (ht : t ≤ 20000) {j : Nat} (hj : j < n) : bitF (vfm (nI t) (ar 7) n) j = true ↔ t < fo j := by
  have hNK := h3 j hj
  rw [bit_vfm _ _ hn (by omega), hNK.1.2.2.2.1, hf_N (by omega) (by have := hNK.2.2.2.2.1; omega)]
  by_cases c : t < fo j
  · simp [c, hj]
  · simp [c]
theorem one_tax {A r j : Nat} (hj : j < 20) (hA : A ≤ 1000000000) (hr : r ≤ 30) (f : Int32) : tall [(nI A, nI r, foB j)] f = nI (A * (if bitF f j = true then r else 30) / 100) := by
  rw [tall_one, nI_l (by omega)]
  by_cases c : bitF f j = true
  · rw [if_pos ((fo_iff hj f).mpr c), if_pos c]
    exact taxL_N (by omega) hr
  · rw [if_neg (fun z => c ((fo_iff hj f).mp z)), if_neg c]
    exact taxL_N (by omega) (Nat.le_refl 30)
theorem cents_N {j ce : Nat} (hNK : NK t ar hF kd ld sh fo si j) (hc : ce ≤ 1000) : ar 6 j * nI ce = nI (sh j * ce) ∧ sh j * ce ≤ 1000000000 := by
  have hs := hNK.2.2.2.1
  have := Nat.mul_le_mul hs hc
  rw [hNK.1.2.2.1, pk_mul]
  exact ⟨rfl, by omega⟩
abbrev ARP (ar : AR) (t n d ce : Nat) (FM : Int32) : AR := payDv ar (nI t) d (nI ce) (heP (nI t) n ar d (nI ce) FM) n
abbrev POP (ar : AR) (po : PO) (t n d ce : Nat) : PO := poS po d (mkS (nI t) n ar d (nI ce) po) n
theorem arp_12 {ce j : Nat} {FM : Int32} (hNK : NK t ar hF kd ld sh fo si j) (hc : ce ≤ 1000) (hj : j < n) : ARP ar t n d ce FM 12 (20 * d + j) = nI (sh j * ce) := by
  show fillF (ar 12) (20 * d) (fun i => ar 6 i * nI ce) n (20 * d + j) = _
  unfold fillF
  rw [if_pos ⟨by omega, by omega⟩, Nat.add_sub_cancel_left]
  exact (cents_N hNK hc).1
theorem arp_13 {ce j : Nat} {FM : Int32} (hNK : NK t ar hF kd ld sh fo si j) (hc : ce ≤ 1000) (hj : j < n) (h0 : ¬ sh j * ce = 0) : ARP ar t n d ce FM 13 (20 * d + j) = tall (mkP (nI t) n ar j (nI (sh j * ce))) FM := by
  show fillF (ar 13) (20 * d) (heP (nI t) n ar d (nI ce) FM) n (20 * d + j) = _
  unfold fillF heP
  obtain ⟨e, hA⟩ := cents_N hNK hc
  rw [if_pos ⟨by omega, by omega⟩, Nat.add_sub_cancel_left, e, if_neg (nI_ne0 (by omega) (by omega))]
theorem pop_at {ce j : Nat} (hNK : NK t ar hF kd ld sh fo si j) (hc : ce ≤ 1000) (hj : j < n) (h0 : ¬ sh j * ce = 0) : POP ar po t n d ce (20 * d + j) = mkP (nI t) n ar j (nI (sh j * ce)) := by
  show poS po d (mkS (nI t) n ar d (nI ce) po) n (20 * d + j) = _
  unfold poS mkS
  obtain ⟨e, hA⟩ := cents_N hNK hc
  rw [if_pos ⟨by omega, by omega⟩, Nat.add_sub_cancel_left, e, if_neg (nI_ne0 (by omega) (by omega))]
theorem Nm.pay (h : Nm n d t ar po rf hF tF pF cF zF kd ld sh fo si g la) {ce : Nat} (hc : ce ≤ 1000) (hd : d < 12) (hp : pF d = nI t) (FM : Int32) {y : Int32} (hy : y = nI (d + 1)) :
    Nm n (d + 1) t (ARP ar t n d ce FM) (POP ar po t n d ce) rf hF tF pF (upd cF 2 y) zF kd ld sh fo si g la := by
  obtain ⟨⟨h1, _, ht⟩, ⟨c0, c1, c2, z0⟩, h3, h4, h5, h6, h7, h8, h9, h10, h11⟩ := h
  refine ⟨⟨h1, by omega, ht⟩, ⟨(upd_ne (by decide)).trans c0, (upd_ne (by decide)).trans c1, upd_eq.trans hy, z0⟩, h3, h4, h5, h6, h7, fun m hm hm2 => ?_, fun m => ?_, fun D hD => ?_, fun D j hD hj => ?_⟩
  · show fillF (ar 12) (20 * d) (fun i => ar 6 i * nI ce) n m = 0
    unfold fillF
    rw [if_neg (by omega)]
    exact h8 m (by omega) hm2
  · show (poS po d (mkS (nI t) n ar d (nI ce) po) n m).length ≤ 32
    unfold poS mkS
    split
    · split
      · exact h9 _
      · exact Nat.le_trans (mkP_len _ _ _ _ h1) (by decide)
    · exact h9 m
  · show ∃ q : Nat, q ≤ t ∧ upd (ar 11) d (nI t) D = nI q ∧ pF D = nI q
    by_cases c : D = d
    · subst c
      exact ⟨t, Nat.le_refl t, upd_eq, hp⟩
    · rw [upd_ne c]
      exact h10 D (by omega)
  · by_cases c : D = d
    · subst c
      by_cases cj : j < n
      · have hNK := h3 j cj
        obtain ⟨eA, hA⟩ := cents_N hNK hc
        by_cases c0 : sh j * ce = 0
        · refine Or.inl ?_
          rw [arp_12 hNK hc cj, c0]
          rfl
        · obtain ⟨g1, g2⟩ := pay_po h3 h5 h7 h1 ht cj hA
          obtain ⟨T, D2, t1, t2, t3, t4⟩ := PG_tax g1 hA FM
          refine Or.inr ⟨cj, sh j * ce, T, D2, by omega, hA, arp_12 hNK hc cj, ?_, ?_, ?_, t3, t4, fun w => ?_⟩
          · rw [arp_13 hNK hc cj c0]; exact t1
          · rw [pop_at hNK hc cj c0]; exact g1
          · rw [pop_at hNK hc cj c0]; exact t2
          · rw [pop_at hNK hc cj c0]
            rcases hNK.2.2.1 with ⟨a, _⟩ | ⟨a, _⟩
            · exact absurd (show ar 4 j = 2 by rw [hNK.1.1, a]; rfl) w
            · exact ⟨_, _, g2 a⟩
      · refine Or.inl ?_
        show fillF (ar 12) (20 * D) (fun i => ar 6 i * nI ce) n (20 * D + j) = 0
        unfold fillF
        rw [if_neg (by omega)]
        exact h8 _ (by omega) (by omega)
    · refine (h11 D j (by omega) hj).cg (Nat.le_refl n) ?_ ?_ rfl ?_
      · show fillF (ar 12) (20 * d) (fun i => ar 6 i * nI ce) n (20 * D + j) = _
        unfold fillF
        rw [if_neg (by omega)]
      · show fillF (ar 13) (20 * d) (heP (nI t) n ar d (nI ce) FM) n (20 * D + j) = _
        unfold fillF
        rw [if_neg (by omega)]
      · show poS po d (mkS (nI t) n ar d (nI ce) po) n (20 * D + j) = _
        unfold poS
        rw [if_neg (by omega)]
/-- what the law reads of the new dividend -/
theorem pay_reads (h : Nm n d t ar po rf hF tF pF cF zF kd ld sh fo si g la) {ce j : Nat} (hc : ce ≤ 1000) (hj : j < n) {FM : Int32} (hFM : FM = vfm (nI t) (ar 7) n) :
    (kd j < 2 → (if ARP ar t n d ce FM 12 (20 * d + j) = 0 then 0 else tall (POP ar po t n d ce (20 * d + j)) (-1)) = nI (sh j * ce * rtN (lgB (kd j) (sh j) (si j) t) (g (ld j - 1)) (la (ld j - 1)) / 100) ∧
      (if ARP ar t n d ce FM 12 (20 * d + j) = 0 then 0 else ARP ar t n d ce FM 13 (20 * d + j)) = nI (sh j * ce * (if t < fo j then rtN (lgB (kd j) (sh j) (si j) t) (g (ld j - 1)) (la (ld j - 1)) else 30) / 100)) ∧
    ∃ H : Nat, (if ARP ar t n d ce FM 12 (20 * d + j) = 0 then 0 else ARP ar t n d ce FM 13 (20 * d + j)) = nI H ∧ H ≤ sh j * ce * 30 / 100 ∧ (kd j = 2 → ¬ t < fo j → sh j * ce * 30 / 100 < H + 20) := by
  obtain ⟨⟨h1, _, ht⟩, _, h3, h4, h5, h6, h7, _⟩ := h
  have hNK := h3 j hj
  obtain ⟨eA, hA⟩ := cents_N hNK hc
  rw [arp_12 hNK hc hj]
  by_cases c0 : sh j * ce = 0
  · rw [c0, if_pos (show nI 0 = 0 from rfl), if_pos (show nI 0 = 0 from rfl)]
    refine ⟨fun _ => ⟨by rw [Nat.zero_mul, Nat.zero_div]; rfl, by rw [Nat.zero_mul, Nat.zero_div]; rfl⟩, 0, rfl, Nat.zero_le _, fun _ _ => by rw [Nat.zero_mul, Nat.zero_div]; decide⟩
  · rw [if_neg (nI_ne0 (by omega) (by omega)), if_neg (nI_ne0 (by omega) (by omega)), arp_13 hNK hc hj c0, pop_at hNK hc hj c0]
    obtain ⟨g1, g2⟩ := pay_po h3 h5 h7 h1 ht hj hA
    obtain ⟨T, D2, t1, t2, t3, t4⟩ := PG_tax g1 hA FM
    have hb := bit_form h3 h1 ht hj
    rw [← hFM] at hb
    refine ⟨fun a => ?_, T, t1, t4, fun k2 nf => ?_⟩
    · have hr : rtN (lgB (kd j) (sh j) (si j) t) (g (ld j - 1)) (la (ld j - 1)) ≤ 30 := by
        rcases hNK.2.2.1 with ⟨z, _⟩ | ⟨_, l1, l6⟩
        · omega
        · exact rtN_le (h5 (ld j - 1) (by omega)).1.2.2
      rw [g2 a, one_tax (by omega) hA hr, one_tax (by omega) hA hr, if_pos (bit_m1 j (by omega))]
      refine ⟨rfl, ?_⟩
      by_cases c : t < fo j
      · rw [if_pos (hb.mpr c), if_pos c]
      · rw [if_neg (fun z => c (hb.mp z)), if_neg c]
    · have e4 : ar 4 j = 2 := by rw [hNK.1.1, k2]; rfl
      obtain ⟨T2, u1, u2, u3⟩ := PG_full g1 hA (mkP_len _ _ _ _ h1) (fo := FM) (mkP_PM e4 (fun k hk z => nf (hb.mp ((fo2_iff (by omega) (by omega) FM).mp z).1)))
      have hT : T = T2 := (nI_eq (by omega) (by omega)).mp (t1.symm.trans u1)
      omega
/-! ===== refunds ===== -/
theorem Nm.py (h : Nm n d t ar po rf hF tF pF cF zF kd ld sh fo si g la) {D j : Nat} (hD : D < d) (hj : j < 20) (hg : ¬ ar 12 (20 * D + j) = 0) : j < n ∧ ∃ A H D2 : Nat, 0 < A ∧ A ≤ 1000000000 ∧ ar 12 (20 * D + j) = nI A ∧ ar 13 (20 * D + j) = nI H ∧ PG (po (20 * D + j)) A ∧ tall (po (20 * D + j)) (-1) = nI D2 ∧ D2 ≤ H ∧ H ≤ A * 30 / 100 ∧ (¬ ar 4 j = 2 → ∃ e r : Int32, po (20 * D + j) = [(e, r, foB j)]) := by
  rcases h.2.2.2.2.2.2.2.2.2.2 D j hD hj with z | z
  · exact absurd z hg
  · exact z
/-- what is held changes, not below what is due -/
theorem Nm.held (h : Nm n d t ar po rf hF tF pF cF zF kd ld sh fo si g la) {D j A D2 H2 : Nat} (hD : D < d) (hj : j < 20) (hg : ¬ ar 12 (20 * D + j) = 0) (eA : ar 12 (20 * D + j) = nI A) (hA : A ≤ 1000000000) (eD : tall (po (20 * D + j)) (-1) = nI D2) (hD2 : D2 < 2 ^ 31) (h1 : D2 ≤ H2) (h2 : H2 ≤ A * 30 / 100) {zF2 : Nat → Int64} {rf2 : Int64} (hz : zF2 0 = rf2) {x : Int32} (hx : x = nI H2) :
    Nm n d t (va_up ar 13 (upd (ar 13) (20 * D + j) x)) po rf2 hF tF pF cF zF2 kd ld sh fo si g la := by
  subst hx
  have hP := h.py hD hj hg
  obtain ⟨a1, ⟨c0, c1, c2, z0⟩, a3, a4, a5, a6, a7, a8, a9, a10, a11⟩ := h
  refine ⟨a1, ⟨c0, c1, c2, hz⟩, a3, a4, a5, a6, a7, a8, a9, a10, fun D3 j3 hD3 hj3 => ?_⟩
  by_cases c : 20 * D3 + j3 = 20 * D + j
  · obtain rfl : D3 = D := by omega
    obtain rfl : j3 = j := by omega
    obtain ⟨hjn, A2, H, D4, b1, b2, b3, b4, b5, b6, b7, b8, b9⟩ := hP
    have e1 : A2 = A := (nI_eq (by omega) (by omega)).mp (b3.symm.trans eA)
    subst e1
    have e2 : D4 = D2 := (nI_eq (by omega) hD2).mp (b6.symm.trans eD)
    subst e2
    exact Or.inr ⟨hjn, A2, H2, D4, b1, b2, b3, upd_eq, b5, b6, h1, h2, b9⟩
  · exact (a11 D3 j3 hD3 hj3).cg (Nat.le_refl n) rfl (upd_ne c) rfl rfl
theorem lowF_N {H T : Nat} (hH : H < 2 ^ 30) (hT : T < 2 ^ 30) : lowF (nI H) (nI T) = nI (H - T) ∧ nI H - nI (H - T) = nI (if H ≤ T then H else T) := by
  unfold lowF
  have e := pk_sub_toInt (a := H) (b := T) hH hT
  have z : (0 : Int32).toInt = 0 := rfl
  by_cases c : H ≤ T
  · rw [if_pos c, show H - T = 0 by omega]
    refine ⟨?_, by rw [show nI 0 = (0 : Int32) from rfl]; simp⟩
    by_cases c2 : nI H - nI T < 0
    · rw [if_pos c2]; rfl
    · rw [if_neg c2]
      rw [Int32.lt_iff_toInt_lt, e] at c2
      have : H = T := by omega
      rw [this]
      simp [nI]
  · rw [if_neg c, if_neg (by rw [Int32.lt_iff_toInt_lt, e]; omega), pk_sub (by omega)]
    refine ⟨rfl, ?_⟩
    rw [pk_sub (by omega)]
    exact congrArg nI (by omega)
theorem day_N {q ds : Nat} (hq : q ≤ t) (ht : t ≤ 20000) (hd : ds < 2 ^ 30) : nI t - nI q ≤ nI ds ↔ t - q ≤ ds := by
  rw [pk_sub hq]
  exact nI_leI (by omega) (by omega)
theorem fRf_N {D j q : Nat} (hD : D < d) (hd : d ≤ 12) (hj : j < n) (hn : n ≤ 20) (eq : ar 11 D = nI q) (hq : q ≤ t) (ht : t ≤ 20000) : fRf (nI D) (nI j) n d (ar 12) (ar 11) (nI t) = if ar 12 (20 * D + j) = 0 then 2 else if t - q ≤ 60 then 0 else 2 := by
  unfold fRf ovF
  rw [if_neg (iw_in hD (by omega)), if_neg (iw_in hj (by omega)), nI_clamp (by omega), nI_clamp (by omega), eq]
  have e := day_N (ds := 60) hq ht (by decide)
  by_cases c : ar 12 (20 * D + j) = 0
  · rw [if_pos c, if_pos c]
    exact if_pos (by decide)
  · rw [if_neg c, if_neg c]
    by_cases c2 : t - q ≤ 60
    · rw [if_pos c2, if_pos (show nI t - nI q ≤ 60 from e.mpr c2)]
      exact if_neg (fun z => z rfl)
    · rw [if_neg c2, if_neg (show ¬ nI t - nI q ≤ 60 from fun z => c2 (e.mp z))]
      exact if_pos (by decide)
theorem fCl_N {D j q : Nat} (hD : D < d) (hd : d ≤ 12) (hj : j < n) (hn : n ≤ 20) (eq : ar 11 D = nI q) (hq : q ≤ t) (ht : t ≤ 20000) (e7 : ar 7 j = nI (fo j) - 1) (hfo : fo j ≤ 21081) : fCl (nI D) (nI j) n d (ar 12) (ar 11) (ar 7) (nI t) = if ar 12 (20 * D + j) = 0 then 2 else if t - q ≤ 1080 then (if t < fo j then 0 else 2) else 2 := by
  unfold fCl ovF
  rw [if_neg (iw_in hD (by omega)), if_neg (iw_in hj (by omega)), nI_clamp (by omega), nI_clamp (by omega), eq, e7, hf_N (by omega) (by omega)]
  have e := day_N (ds := 1080) hq ht (by decide)
  by_cases c : ar 12 (20 * D + j) = 0
  · rw [if_pos c, if_pos c]
    exact if_pos (by decide)
  · rw [if_neg c, if_neg c]
    by_cases c2 : t - q ≤ 1080
    · rw [if_pos c2, if_pos (show nI t - nI q ≤ 1080 from e.mpr c2), if_neg (fun z => z rfl)]
      by_cases c3 : t < fo j
      · rw [if_pos c3, decide_eq_true c3]
        exact if_neg (by decide)
      · rw [if_neg c3, decide_eq_false c3]
        exact if_pos (by decide)
    · rw [if_neg c2, if_neg (show ¬ nI t - nI q ≤ 1080 from fun z => c2 (e.mp z))]
      exact if_pos (by decide)
/-- a person's or company's own valid form makes all due -/
theorem tax_all {D j : Nat} {e r f : Int32} (hj : j < 20) (hp : po (20 * D + j) = [(e, r, foB j)]) (hb : bitF f j = true) : tall (po (20 * D + j)) f = tall (po (20 * D + j)) (-1) := by
  rw [hp, tall_one, tall_one, if_pos ((fo_iff hj f).mpr hb), if_pos ((fo_iff hj (-1)).mpr (bit_m1 j hj))]
/-! ===== all that is held, in the law's order ===== -/
def hsN (gr he : Nat → Int32) (n : Nat) : Nat → Int64
  | 0 => 0
  | k + 1 => hsN gr he n k + (if gr (20 * (k / n) + k % n) = 0 then 0 else he (20 * (k / n) + k % n)).toInt64
theorem hsN_row {gr he : Nat → Int32} {n : Nat} (h0 : 0 < n) (D : Nat) : ∀ j, j ≤ n → hsN gr he n (n * D + j) = hsN gr he n (n * D) + hrs gr he D j := by
  intro j
  induction j with
  | zero =>
    intro _
    show hsN gr he n (n * D) = _ + 0
    simp
  | succ j ih =>
    intro hj
    have e1 : (n * D + j) / n = D := by rw [Nat.mul_add_div h0, Nat.div_eq_of_lt (by omega), Nat.add_zero]
    have e2 : (n * D + j) % n = j := by rw [Nat.mul_add_mod, Nat.mod_eq_of_lt (by omega)]
    show hsN gr he n (n * D + j) + (if gr (20 * ((n * D + j) / n) + (n * D + j) % n) = 0 then 0 else he (20 * ((n * D + j) / n) + (n * D + j) % n)).toInt64 = hsN gr he n (n * D) + (if gr (20 * D + j) = 0 then hrs gr he D j else hrs gr he D j + (he (20 * D + j)).toInt64)
    rw [e1, e2, ih (by omega)]
    by_cases c : gr (20 * D + j) = 0
    · rw [if_pos c, if_pos c]
      simp
    · rw [if_neg c, if_neg c, Int64.add_assoc]
theorem hrs_z {gr he : Nat → Int32} {n D : Nat} (hz : ∀ j, n ≤ j → j < 20 → gr (20 * D + j) = 0) : ∀ k, n + k ≤ 20 → hrs gr he D (n + k) = hrs gr he D n := by
  intro k
  induction k with
  | zero => intro _; rfl
  | succ k ih =>
    intro hk
    show (if gr (20 * D + (n + k)) = 0 then hrs gr he D (n + k) else _) = _
    rw [if_pos (hz (n + k) (by omega) (by omega))]
    exact ih (by omega)
theorem hsN_all {gr he : Nat → Int32} {n : Nat} (hn : n ≤ 20) (d : Nat) (hz : ∀ D, D < d → ∀ j, n ≤ j → j < 20 → gr (20 * D + j) = 0) : hsN gr he n (n * d) = hrA gr he d := by
  induction d with
  | zero => rfl
  | succ d ih =>
    have ih := ih (fun D hD => hz D (by omega))
    have hr := hrs_z (he := he) (hz d (by omega)) (20 - n) (by omega)
    rw [show n + (20 - n) = 20 by omega] at hr
    show hsN gr he n (n * d + n) = hrA gr he d + hrs gr he d 20
    rw [hr]
    by_cases c : n = 0
    · subst c
      rw [Nat.zero_mul] at ih ⊢
      show hsN gr he 0 0 = hrA gr he d + 0
      rw [ih]
      simp
    · rw [hsN_row (by omega) d n (Nat.le_refl n), ih]
theorem Nm.gz (h : Nm n d t ar po rf hF tF pF cF zF kd ld sh fo si g la) : ∀ D, D < d → ∀ j, n ≤ j → j < 20 → ar 12 (20 * D + j) = 0 := fun D hD j h1 h2 => by
  rcases h.2.2.2.2.2.2.2.2.2.2 D j hD h2 with z | ⟨z, _⟩
  · exact z
  · omega
end PAYN
