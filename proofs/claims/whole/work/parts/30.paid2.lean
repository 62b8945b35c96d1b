/-! ===== a pay day: the next state ===== -/
theorem txG_0 {n : Nat} {p : Nat → Nat} {pf sr v : Nat → Int32} {kd ow : Int32} {b j : Nat} (hn : n ≤ 20) (hF : ∀ k, k < 20 → pf k = nI (p k)) (hp : ∀ k, k < 20 → p k ≤ 100) : txG kd 0 pf sr b ow v j n = 0 := by
  have tz : ∀ r : Int32, taxL 0 r = 0 := fun r => by
    unfold taxL
    rw [Int64.zero_mul]
    rfl
  have e0 : (0 : Int32).toInt64 = 0 := rfl
  unfold txG
  rw [e0]
  by_cases c : kd = 2
  · rw [if_pos c, dsum_N hF]
    by_cases c0 : nI (sumN p 20) = 0
    · rw [if_pos c0, tz]
    · have h0 : 0 < sumN p 20 := Nat.pos_of_ne_zero (fun z => c0 (by rw [z]; rfl))
      have hS : sumN p 20 ≤ 2000 := sumN_le hp
      rw [if_neg c0]
      have xz : ∀ i, i ≤ 20 → lft 0 pf (nI (sumN p 20)) i = 0 := fun i hi => by
        have z := lft_N (A := 0) (S := sumN p 20) (by decide) h0 hS rfl hF hp hi
        rw [show lN 0 = 0 from rfl] at z
        rw [z, Nat.zero_sub]
        rfl
      have main : ∀ tr : Nat → Int32, ∀ k, k ≤ n → txS 0 pf (nI (sumN p 20)) (low pf 20) sr tr b k = 0 := by
        intro tr k
        induction k with
        | zero => intro _; rfl
        | succ k ih =>
          intro hk
          show txS 0 pf (nI (sumN p 20)) (low pf 20) sr tr b k + txP 0 pf (nI (sumN p 20)) (low pf 20) sr tr b k = 0
          rw [ih (by omega)]
          unfold txP
          by_cases cp : pf k = 0
          · rw [if_pos cp]
            rfl
          · have sz : shr 0 pf (nI (sumN p 20)) k = 0 := by
              have z := shr_N (A := 0) (S := sumN p 20) (F := pf) (p := p) (k := k) (by decide) h0 hS (hF k (by omega)) (hp k (by omega))
              rw [show lN 0 = 0 from rfl, Nat.zero_mul, Nat.zero_div] at z
              exact z
            have lz : lfA 0 pf (nI (sumN p 20)) (low pf 20) k = 0 := by
              unfold lfA
              split
              · exact xz 20 (Nat.le_refl 20)
              · rfl
            rw [if_neg cp, sz, lz, show (0 : Int64) + 0 = 0 from rfl, tz]
            rfl
      exact main _ n (Nat.le_refl n)
  · rw [if_neg c, tz]
section PAID
variable {G : hv_G} {h : hv} {ad : Nat → Nat → Nat} {n d : Nat} {dy c : Int32} {rf : Int64} {ar : Nat → Nat → Int32} {fm : Nat → Int32} {po : Nat → List (Int32 × Int32 × Int32)}
theorem fPy_c (hF : fPy c d (l_sum (ar 6) n) = 0) : ¬ iw c 1 1000 = 0 ∧ ¬ nI d = 40 := by
  unfold fPy at hF
  refine ⟨fun z => by simp [z] at hF, fun z => ?_⟩
  by_cases a : iw c 1 1000 = 0 <;> simp [a, z] at hF
theorem cents (hc : ¬ iw c 1 1000 = 0) : ∃ q : Nat, 0 < q ∧ q ≤ 1000 ∧ c = nI q := by
  obtain ⟨a1, a2⟩ := iw_no hc
  obtain ⟨r, hr, rfl⟩ := nI_of (x := c) (fun z => a1 (Int32.lt_trans z (by decide)))
  refine ⟨r, Nat.pos_of_ne_zero (fun z => a1 (by rw [z]; decide)), Nat.le_of_not_lt (fun z => a2 (nI_lt (a := 1000) z hr)), rfl⟩
theorem hgp_of (R : Rel n d dy ar fm po) : ¬ iw c 1 1000 = 0 → ∀ k, k < n → (ar 6 k ≤ 0 ↔ ar 6 k * c = 0) := by
  intro hc k hk
  obtain ⟨-, ⟨-, ⟨s, s1, s2, s3⟩, -⟩, -⟩ := R
  obtain ⟨q, q0, q1, rfl⟩ := cents hc
  have hs := Nat.le_trans (sumN_at s hk) s3
  have hm : s k * q ≤ 1000000 * 1000 := Nat.mul_le_mul hs q1
  rw [s1, pk_mul, show (0 : Int32) = nI 0 from rfl, nI_leI (by omega) (by decide), nI_eq (by omega) (by decide)]
  constructor
  · intro z
    rw [Nat.le_zero.mp z, Nat.zero_mul]
  · intro z
    rcases Nat.mul_eq_zero.mp z with z | z <;> omega
theorem ptP {j x : Nat} (hj : j < n) (hx : x < 20) : ptF (payP ar d (20 * n)) d j x = ar 9 (20 * j + x) := by
  show fillF (ar 18) (20 * (20 * d)) (ar 9) (20 * n) (20 * (20 * d + j) + x) = _
  rw [show 20 * (20 * d + j) + x = 20 * (20 * d) + (20 * j + x) by omega]
  exact fill_at _ _ _ (by omega)
/-- what was paid now: the portions' taxes are the reference's -/
theorem pay_tax (R : Rel n d dy ar fm po) (hc : ¬ iw c 1 1000 = 0) {k : Nat} (hk : k < n) : ∃ (A : Nat) (p : Nat → Nat), A ≤ 1000000000 ∧ ar 6 k * c = nI A ∧ (∀ x, x < 20 → ptF (payP ar d (20 * n)) d k x = nI (p x)) ∧ (∀ x, x < 20 → p x ≤ 100) ∧ (∀ x, n ≤ x → x < 20 → p x = 0) ∧
    (∀ (fo : Int32) (v : Nat → Int32), (∀ x, x < 20 → (bitF fo x = true ↔ ¬ v x = 0)) → tall (mkP dy n ar k (ar 6 k * c)) fo = TXA n (payR ar dy n d c n) d k v) ∧ ∀ v : Nat → Int32, ∃ t : Nat, t ≤ 2 ^ 29 ∧ TXA n (payR ar dy n d c n) d k v = nI t := by
  obtain ⟨⟨h0, h0d, h0t⟩, ⟨h2, ⟨s, s1, s2, s3⟩, h4, h5, h6⟩, h7⟩ := R
  obtain ⟨q, q0, q1, rfl⟩ := cents hc
  have hs := Nat.le_trans (sumN_at s hk) s3
  have hm : s k * q ≤ 1000000 * 1000 := Nat.mul_le_mul hs q1
  have eA : ar 6 k * nI q = nI (s k * q) := by rw [s1, pk_mul]
  obtain ⟨p, ep⟩ : ∃ p : Nat → Nat, p = fun x => (ar 9 (20 * k + x)).toNatClampNeg := ⟨_, rfl⟩
  have p9 : ∀ x, x < 20 → ar 9 (20 * k + x) = nI (p x) ∧ p x ≤ 100 ∧ (n ≤ x → p x = 0) := fun x hx => by
    obtain ⟨r, r1, r2, r3⟩ := h4 k x (by omega) hx
    have e : p x = r := by rw [ep]; show (ar 9 (20 * k + x)).toNatClampNeg = r; rw [r2, nI_clamp (by omega)]
    rw [e]
    exact ⟨r2, r1, fun z => r3 (Or.inr z)⟩
  have hF2 : ∀ x, x < 20 → ptF (payP ar d (20 * n)) d k x = nI (p x) := fun x hx => by rw [ptP hk hx]; exact (p9 x hx).1
  have hF1 : ∀ x, x < 20 → prow (ar 9) k x = nI (p x) := fun x hx => by
    unfold prow
    rw [if_pos hx]
    exact (p9 x hx).1
  have eT : ∀ v : Nat → Int32, TXA n (payR ar dy n d (nI q) n) d k v = txG (ar 4 k) (nI (s k * q)) (ptF (payP ar d (20 * n)) d k) (payS ar d n) (20 * d) (if ar 4 k = 2 then 30 else rtF dy (ar 1) (ar 2) (ar 4) (ar 5) (ar 6) (ar 8) k) v k n := fun v => by
    show txG (ar 4 k) (payG ar d (nI q) n (20 * d + k)) (ptF (payP ar d (20 * n)) d k) (payS ar d n) (20 * d) (payO ar dy d n (20 * d + k)) v k n = _
    rw [show payG ar d (nI q) n (20 * d + k) = ar 6 k * nI q from fill_at _ _ (fun i => ar 6 i * nI q) hk, eA, show payO ar dy d n (20 * d + k) = _ from fill_at _ _ (fun i => if ar 4 i = 2 then 30 else rtF dy (ar 1) (ar 2) (ar 4) (ar 5) (ar 6) (ar 8) i) hk]
  have eS : ∀ x, x < n → payS ar d n (20 * d + x) = if ar 4 x = 2 then 30 else ar 1 (ar 5 x).toNatClampNeg := fun x hx => fill_at _ _ (fun i => if ar 4 i = 2 then 30 else ar 1 (ar 5 i).toNatClampNeg) hx
  refine ⟨s k * q, p, by omega, eA, hF2, fun x hx => (p9 x hx).2.1, fun x h1 h2 => (p9 x h2).2.2 h1, fun fo v hv => ?_, fun v => ?_⟩
  · rw [eT, eA]
    refine mk_tax h0 hk (by omega) hF1 hF2 (fun x hx => (p9 x hx).2.1) (fun x h1 h2 => (p9 x h2).2.2 h1) (fun _ x hx _ => ?_) (fun hk2 => ?_) hv
    · rw [eS x hx]
      exact sr_eq h2 hx
    · rw [if_neg hk2]
      exact own_rt h2 hk hk2
  · rw [eT]
    refine txG_bd (by omega) h0 hF2 (fun x hx => (p9 x hx).2.1) (fun x hx => ?_) ?_
    · rw [eS x hx]
      rcases h2 x hx with ⟨a, b⟩ | ⟨a, b⟩
      · rw [if_pos a]
        exact ⟨30, Nat.le_refl 30, rfl⟩
      · rw [if_neg a]
        exact (h6 _ (vp_tn b (by decide))).1
    · rcases h2 k hk with ⟨a, b⟩ | ⟨a, b⟩
      · rw [if_pos a]
        exact ⟨30, Nat.le_refl 30, rfl⟩
      · rw [if_neg a]
        unfold rtF rt
        have hh := h6 _ (vp_tn b (by decide))
        split
        · exact hh.1
        · split
          · exact hh.1
          · exact hh.2
theorem wv_row (R : Rel n d dy ar fm po) (hd : d < 40) {x : Nat} (hx : x < 20) : (x < n → payV ar dy d n (20 * d + x) = hf dy (ar 7 x)) ∧ (n ≤ x → payV ar dy d n (20 * d + x) = 0) := by
  obtain ⟨-, -, h7, -⟩ := R
  refine ⟨fun z => fill_at _ _ (fun i => hf dy (ar 7 i)) z, fun z => ?_⟩
  rw [show payV ar dy d n (20 * d + x) = ar 17 (20 * d + x) from fill_out _ _ _ (Or.inr (by omega))]
  exact (h7 _ (by omega) (by omega)).2.2.2
theorem held_now (R : Rel n d dy ar fm po) (hc : ¬ iw c 1 1000 = 0) (hd : d < 40) {k : Nat} (hk : k < n) (h0 : ¬ ar 6 k * c = 0) : heP dy n ar d c (vfm dy (ar 7) n) k = payT ar dy n d c 0 k := by
  obtain ⟨A, p, -, -, -, -, -, z, -⟩ := pay_tax R hc hk
  have e : heP dy n ar d c (vfm dy (ar 7) n) k = tall (mkP dy n ar k (ar 6 k * c)) (vfm dy (ar 7) n) := if_neg h0
  rw [e]
  show _ = taxF dy n (ar 4) (ar 7) (payG ar d c n) (payS ar d n) (payO ar dy d n) (payV ar dy d n) (payP ar d (20 * n)) d k 0 0
  rw [taxF_G]
  refine z _ (fun x => cnt dy (ar 7 x) (payV ar dy d n (20 * d + x)) 0 0) (fun x hx => ?_)
  rw [bit_vfm dy (ar 7) R.1.1 hx, cnt_then]
  obtain ⟨w1, w2⟩ := wv_row R hd hx
  by_cases cx : x < n
  · rw [w1 cx]
    simp [cx]
  · rw [w2 (by omega)]
    simp [cx]
/-- the desk's next state is the reference's -/
theorem isD_paid (R : Rel n d dy ar fm po) (hc : ¬ iw c 1 1000 = 0) (hd : d < 40) {fm2 : Nat → Int32} {po2 : Nat → List (Int32 × Int32 × Int32)} (hD : isD G h ad n (d + 1) (d + 1) dy rf (payDv ar dy d c (heP dy n ar d c (vfm dy (ar 7) n)) n) fm2 po2) : isD G h ad n (d + 1) (d + 1) dy rf (payR ar dy n d c n) fm2 po2 := by
  refine isD_cg hD (fun k hk => ?_) (fun m hm => ?_)
  · rcases hk with rfl | rfl | rfl | rfl | rfl | rfl | rfl | rfl | rfl | rfl <;> rfl
  · show fillF (ar 13) (20 * d) (payT ar dy n d c 0) n m = fillF (ar 13) (20 * d) (heP dy n ar d c (vfm dy (ar 7) n)) n m
    obtain ⟨m1, m2⟩ := hm
    have m3 : ¬ payG ar d c n m = 0 := m2
    by_cases c1 : 20 * d ≤ m ∧ m < 20 * d + n
    · obtain ⟨k, rfl⟩ : ∃ k, m = 20 * d + k := ⟨m - 20 * d, by omega⟩
      have hk : k < n := by omega
      rw [show payG ar d c n (20 * d + k) = ar 6 k * c from fill_at _ _ (fun i => ar 6 i * c) hk] at m3
      rw [fill_at _ _ _ hk, fill_at _ _ _ hk]
      exact (held_now R hc hd hk m3).symm
    · rw [fill_out _ _ _ (by omega), fill_out _ _ _ (by omega)]
theorem Rel_pay (R : Rel n d dy ar fm po) (hF : fPy c d (l_sum (ar 6) n) = 0) : Rel n (d + 1) dy (payR ar dy n d c n) (va_up fm d (vfm dy (ar 7) n)) (poS po d (mkS dy n ar d c po) n) := by
  obtain ⟨hc, h40⟩ := fPy_c hF
  have R0 := R
  obtain ⟨⟨h0, h0d, h0t⟩, h2, h7, h8, h9, h10⟩ := R
  have hd : d < 40 := Nat.lt_of_le_of_ne h0d (fun z => h40 (by rw [z]; rfl))
  refine ⟨⟨h0, hd, h0t⟩, h2, fun m hm hm2 => ?_, fun D hD k hk => ?_, poS_len h0 h9 n, fun D hD j hj => ?_⟩
  · obtain ⟨a, b, e, w⟩ := h7 m (by omega) hm2
    refine ⟨?_, ?_, ?_, ?_⟩
    · show payG ar d c n m = 0
      exact (fill_out _ _ _ (Or.inr (by omega))).trans a
    · show fillF (ar 13) (20 * d) _ n m = 0
      rw [fill_out _ _ _ (Or.inr (by omega))]
      exact b
    · show fillF (ar 14) (20 * d) _ n m = 0
      rw [fill_out _ _ _ (Or.inr (by omega))]
      exact e
    · show payV ar dy d n m = 0
      exact (fill_out _ _ _ (Or.inr (by omega))).trans w
  · show bitF (va_up fm d (vfm dy (ar 7) n) D) k = true ↔ ¬ payV ar dy d n (20 * D + k) = 0
    by_cases cD : D = d
    · subst cD
      rw [va_up_self, bit_vfm dy (ar 7) h0 hk]
      obtain ⟨w1, w2⟩ := wv_row R0 hd hk
      by_cases cx : k < n
      · rw [w1 cx]
        simp [cx]
      · rw [w2 (by omega)]
        simp [cx]
    · rw [va_up_ne _ _ cD, show payV ar dy d n (20 * D + k) = ar 17 (20 * D + k) from fill_out _ _ _ (Or.inl (by omega))]
      exact h8 D (by omega) k hk
  · by_cases cD : D = d
    · subst cD
      have z12 : (payR ar dy n D c n) 12 = payG ar D c n := rfl
      have z13 : (payR ar dy n D c n) 13 = fillF (ar 13) (20 * D) (payT ar dy n D c 0) n := rfl
      have z14 : (payR ar dy n D c n) 14 = fillF (ar 14) (20 * D) (payT ar dy n D c 1) n := rfl
      unfold RelY
      rw [z12, z13, z14]
      by_cases cj : j < n
      · obtain ⟨A, p, hA, eA, p1, p2, p3, p4, p5⟩ := pay_tax R0 hc cj
        have g : payG ar D c n (20 * D + j) = ar 6 j * c := fill_at _ _ (fun i => ar 6 i * c) cj
        rw [g, fill_at _ _ _ cj, fill_at _ _ _ cj]
        have t0 : payT ar dy n D c 0 j = TXA n (payR ar dy n D c n) D j (fun x => cnt dy (ar 7 x) (payV ar dy D n (20 * D + x)) 0 0) := rfl
        have t1 : payT ar dy n D c 1 j = TXA n (payR ar dy n D c n) D j (fun _ => 1) := by
          have e1 : (fun x => cnt dy (ar 7 x) (payV ar dy D n (20 * D + x)) 0 1) = fun _ => 1 := by
            funext x
            exact if_pos (by decide)
          show TXA n (payR ar dy n D c n) D j (fun x => cnt dy (ar 7 x) (payV ar dy D n (20 * D + x)) 0 1) = _
          rw [e1]
        refine ⟨fun hz => ?_, fun hz => ⟨cj, fun x hx hx2 => ?_, fun fo v hv => ?_, p5, ?_, t1⟩⟩
        · have z : ∀ v : Nat → Int32, TXA n (payR ar dy n D c n) D j v = 0 := fun v => by
            have A0 : A = 0 := by
              rw [eA] at hz
              exact (nI_eq (b := 0) (by omega) (by decide)).mp hz
            show txG (ar 4 j) (payG ar D c n (20 * D + j)) (ptF (payP ar D (20 * n)) D j) (payS ar D n) (20 * D) (payO ar dy D n (20 * D + j)) v j n = 0
            rw [g, hz]
            exact txG_0 h0 p1 p2
          exact ⟨by rw [t0, z], by rw [t1, z]⟩
        · show ptF (payP ar D (20 * n)) D j x = 0
          rw [p1 x hx2, p3 x hx hx2]
          rfl
        · rw [show poS po D (mkS dy n ar D c po) n (20 * D + j) = mkP dy n ar j (ar 6 j * c) by
            unfold poS mkS
            rw [if_pos (by omega), show 20 * D + j - 20 * D = j by omega, if_neg hz]]
          exact p4 fo v hv
        · rw [t0]
          exact p5 _
      · have g : payG ar D c n (20 * D + j) = 0 := (fill_out _ _ _ (Or.inr (by omega))).trans (h7 _ (by omega) (by omega)).1
        rw [g, fill_out _ _ _ (Or.inr (by omega)), fill_out _ _ _ (Or.inr (by omega))]
        exact ⟨fun _ => ⟨(h7 _ (by omega) (by omega)).2.1, (h7 _ (by omega) (by omega)).2.2.1⟩, fun z => absurd rfl z⟩
    · have hDd : D < d := by omega
      have hi : 20 * D + j < 20 * d := by omega
      obtain ⟨y1, y2⟩ := h10 D hDd j hj
      have z12 : (payR ar dy n d c n) 12 (20 * D + j) = ar 12 (20 * D + j) := show payG ar d c n (20 * D + j) = _ from fill_out _ _ _ (Or.inl hi)
      have z13 : (payR ar dy n d c n) 13 (20 * D + j) = ar 13 (20 * D + j) := fill_out _ _ _ (Or.inl hi)
      have z14 : (payR ar dy n d c n) 14 (20 * D + j) = ar 14 (20 * D + j) := fill_out _ _ _ (Or.inl hi)
      have z16 : (payR ar dy n d c n) 16 (20 * D + j) = ar 16 (20 * D + j) := show payO ar dy d n (20 * D + j) = _ from fill_out _ _ _ (Or.inl hi)
      have zpt : ∀ x, x < 20 → ptF ((payR ar dy n d c n) 18) D j x = ptF (ar 18) D j x := fun x hx => show payP ar d (20 * n) (20 * (20 * D + j) + x) = _ from fill_out _ _ _ (Or.inl (by omega))
      have zS : ∀ x, x < 20 → (payR ar dy n d c n) 15 (20 * D + x) = ar 15 (20 * D + x) := fun x hx => show payS ar d n (20 * D + x) = _ from fill_out _ _ _ (Or.inl (by omega))
      have zT : ∀ v : Nat → Int32, TXA n (payR ar dy n d c n) D j v = TXA n ar D j v := fun v => by
        show txG (ar 4 j) ((payR ar dy n d c n) 12 (20 * D + j)) _ _ _ ((payR ar dy n d c n) 16 (20 * D + j)) v j n = _
        rw [z12, z16]
        exact txG_cg h0 zpt zS
      have zpo : poS po d (mkS dy n ar d c po) n (20 * D + j) = po (20 * D + j) := if_neg (by omega)
      unfold RelY
      rw [z12, z13, z14, zpo]
      refine ⟨y1, fun hz => ?_⟩
      obtain ⟨g1, g2, g3, g4, g5, g6⟩ := y2 hz
      refine ⟨g1, fun x hx hx2 => by rw [zpt x hx2]; exact g2 x hx hx2, fun fo v hv => by rw [zT]; exact g3 fo v hv, fun v => by rw [zT]; exact g4 v, g5, by rw [zT]; exact g6⟩
end PAID
