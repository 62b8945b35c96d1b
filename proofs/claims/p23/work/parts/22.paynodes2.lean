/-! ===== a payment enters its dividend; a dividend enters the list ===== -/
def adB (b : Nat → Nat → Nat) (m py pl t : Nat) (f : Nat → Nat) : Nat → Nat → Nat := fun k => if k = 8 then va_up (b 8) m py else if k = 10 then va_up (b 10) m pl else if k = 11 then va_up (b 11) m t else if k = 9 then (fun x => if x / 32 = m then f (x % 32) else b 9 x) else b k
section PP
variable {G : hv_G} {h w u : hv} {A b ad : Nat → Nat → Nat} {n d dl : Nat} {dy : Int32} {rf : Int64} {ar : Nat → Nat → Int32} {fm : Nat → Int32} {po : Nat → List (Int32 × Int32 × Int32)}
theorem isD_addP (hD : isD G h (adM A b) n (d + 1) dl dy rf ar fm po) {i : Nat} (hi : i < 20) (hg : ar 12 (20 * d + i) = 0) (hpo : ∀ m, pmL (d + 1) (ar 12) m → (po m).length ≤ 32) {py pl t : Nat} {f : Nat → Nat} {L : List (Int32 × Int32 × Int32)} {am he : Int32} (hY : isY G h w py pl t f L am 0) (hL : L.length ≤ 32) (ham : ¬ am = 0)
    (eu : u = hv_up (hv_up w py (.inr (3, [.int am, .ref pl, .int he]))) (A 7 d) (.inl (G.2.1 2, 20, .inr (.inr (.inr (.inr (va_up (paysF (ar 12) (b 8) d) i (some py)))))))) :
    isD G u (adM A (adB b (20 * d + i) py pl t f)) n (d + 1) dl dy rf (va_up (va_up ar 12 (upd (ar 12) (20 * d + i) am)) 13 (upd (ar 13) (20 * d + i) he)) fm (va_up po (20 * d + i) L) := by
  obtain ⟨m, em⟩ : ∃ m, m = 20 * d + i := ⟨_, rfl⟩
  rw [← em] at hg ⊢
  have hm : m < 20 * (d + 1) := by omega
  obtain ⟨M, eM⟩ : ∃ M, M = adM A (adB b m py pl t f) := ⟨_, rfl⟩
  rw [← eM]
  have Mlo : ∀ k, k < 8 → M k = A k := fun k hk => by rw [eM, adM_lo hk]
  have M8 : M 8 = va_up (b 8) m py := by rw [eM, adM_hi (by decide)]; rfl
  have M10 : M 10 = va_up (b 10) m pl := by rw [eM, adM_hi (by decide)]; rfl
  have M11 : M 11 = va_up (b 11) m t := by rw [eM, adM_hi (by decide)]; rfl
  have M9 : ∀ x, M 9 x = if x / 32 = m then f (x % 32) else b 9 x := fun x => by rw [eM, adM_hi (by decide)]; rfl
  have b8 : adM A b 8 = b 8 := adM_hi (by decide)
  have b9 : adM A b 9 = b 9 := adM_hi (by decide)
  have b10 : adM A b 10 = b 10 := adM_hi (by decide)
  have b11 : adM A b 11 = b 11 := adM_hi (by decide)
  have A7 := hD.1 7 d (Nat.lt_succ_self d)
  rw [adM_lo (by decide)] at A7
  have new : ∀ c e, w c = some e → ¬ c = py → ¬ c = A 7 d → u c = some e := fun c e hc h1 h2 => by rw [eu, hv_up_ne h2, hv_up_ne h1]; exact hc
  have f7 : ∀ c, h c = none → ¬ c = A 7 d := fun c hc z => by rw [z, A7] at hc; cases hc
  have keep : ∀ k x, dLive n (d + 1) dl (ar 12) po k x → ¬ (k = 7 ∧ x = d) → u (adM A b k x) = some (dCell G (adM A b) n (d + 1) dl dy rf ar fm po k x) := fun k x hl hne => by
    have z := hD.1 k x hl
    refine new _ _ (isY_k hY _ _ z) (fun e => ?_) (fun e => ?_)
    · rw [e, hY.2.2.2.2.1.1] at z
      cases z
    · rw [show A 7 d = adM A b 7 d by rw [adM_lo (by decide)]] at e
      exact hne (hD.2 _ _ _ _ hl (Nat.lt_succ_self d) e)
  have upy : u py = some (.inr (3, [.int am, .ref pl, .int he])) := by
    rw [eu, hv_up_ne (f7 py hY.2.2.2.2.1.1)]
    exact hv_up_eq
  have ypl : ¬ pl = py := hv_neO hY.2.1 hY.1 (by decide)
  have upl : u pl = some (lObj G t L.length) := new _ _ hY.2.1 ypl (f7 pl hY.2.2.2.2.1.2.1)
  have upt : ¬ L.length = 0 → u t = some (lArr G f L.length) := fun z => new _ _ (hY.2.2.1 z) (hv_neAO (hY.2.2.1 z) hY.1) (f7 t (hY.2.2.2.2.1.2.2.1 z))
  have upf : ∀ k, k < L.length → u (f k) = some (poE (L.getD k (0, 0, 0))) := fun k hk => new _ _ (hY.2.2.2.1 k hk) (hv_neO (hY.2.2.2.1 k hk) hY.1 (by decide)) (f7 (f k) (hY.2.2.2.2.1.2.2.2 k hk))
  have e12 : (va_up (va_up ar 12 (upd (ar 12) m am)) 13 (upd (ar 13) m he)) 12 = upd (ar 12) m am := rfl
  have e13 : (va_up (va_up ar 12 (upd (ar 12) m am)) 13 (upd (ar 13) m he)) 13 = upd (ar 13) m he := rfl
  have um : ∀ (g : Nat → Int32) (v : Int32) x, ¬ x = m → upd g m v x = g x := fun g v x hx => if_neg hx
  have us : ∀ (g : Nat → Int32) (v : Int32), upd g m v m = v := fun g v => if_pos rfl
  have pm : ∀ x, ¬ x = m → pmL (d + 1) (upd (ar 12) m am) x → pmL (d + 1) (ar 12) x := fun x hx hp => ⟨hp.1, by rw [← um (ar 12) am x hx]; exact hp.2⟩
  refine isD_gen hD (fun k x => (k = 8 ∧ x = m) ∨ (k = 10 ∧ x = m) ∨ (k = 11 ∧ x = m ∧ ¬ L.length = 0) ∨ (k = 9 ∧ x / 32 = m ∧ x % 32 < L.length)) (fun k x hl => ?_) (fun k x k2 x2 hk hk2 e => ?_) (fun k x hl => ?_)
  · rw [e12] at hl
    match k, hl with
    | 0, hl => exact Or.inl ⟨hl, by rw [Mlo 0 (by decide), adM_lo (by decide)]⟩
    | 1, hl => exact Or.inl ⟨hl, by rw [Mlo 1 (by decide), adM_lo (by decide)]⟩
    | 2, hl => exact Or.inl ⟨hl, by rw [Mlo 2 (by decide), adM_lo (by decide)]⟩
    | 3, hl => exact Or.inl ⟨hl, by rw [Mlo 3 (by decide), adM_lo (by decide)]⟩
    | 4, hl => exact Or.inl ⟨hl, by rw [Mlo 4 (by decide), adM_lo (by decide)]⟩
    | 5, hl => exact Or.inl ⟨hl, by rw [Mlo 5 (by decide), adM_lo (by decide)]⟩
    | 6, hl => exact Or.inl ⟨hl, by rw [Mlo 6 (by decide), adM_lo (by decide)]⟩
    | 7, hl => exact Or.inl ⟨hl, by rw [Mlo 7 (by decide), adM_lo (by decide)]⟩
    | 8, hl =>
      rw [M8, b8]
      by_cases c : x = m
      · subst c
        exact Or.inr ⟨by rw [va_up_self]; exact hY.2.2.2.2.1.1, Or.inl ⟨rfl, rfl⟩⟩
      · exact Or.inl ⟨pm x c hl, va_up_ne _ _ c⟩
    | 9, hl =>
      rw [M9, b9]
      obtain ⟨h1, h2⟩ := hl
      by_cases c : x / 32 = m
      · rw [c, va_up_self] at h2
        rw [if_pos c]
        exact Or.inr ⟨hY.2.2.2.2.1.2.2.2 _ h2, Or.inr (Or.inr (Or.inr ⟨rfl, c, h2⟩))⟩
      · rw [va_up_ne _ _ c] at h2
        rw [if_neg c]
        exact Or.inl ⟨⟨pm _ c h1, h2⟩, rfl⟩
    | 10, hl =>
      rw [M10, b10]
      by_cases c : x = m
      · subst c
        exact Or.inr ⟨by rw [va_up_self]; exact hY.2.2.2.2.1.2.1, Or.inr (Or.inl ⟨rfl, rfl⟩)⟩
      · exact Or.inl ⟨pm x c hl, va_up_ne _ _ c⟩
    | 11, hl =>
      rw [M11, b11]
      obtain ⟨h1, h2⟩ := hl
      by_cases c : x = m
      · subst c
        rw [va_up_self] at h2
        exact Or.inr ⟨by rw [va_up_self]; exact hY.2.2.2.2.1.2.2.1 h2, Or.inr (Or.inr (Or.inl ⟨rfl, rfl, h2⟩))⟩
      · rw [va_up_ne _ _ c] at h2
        exact Or.inl ⟨⟨pm x c h1, h2⟩, va_up_ne _ _ c⟩
    | (x + 12), hl => exact hl.elim
  · have fpy : ∀ k, k < L.length → ¬ f k = py := fun k hk => hv_neO (hY.2.2.2.1 k hk) hY.1 (by decide)
    have fpl : ∀ k, k < L.length → ¬ f k = pl := fun k hk => hv_neO (hY.2.2.2.1 k hk) hY.2.1 (by decide)
    have tpy : ¬ L.length = 0 → ¬ t = py := fun z => hv_neAO (hY.2.2.1 z) hY.1
    have tpl : ¬ L.length = 0 → ¬ t = pl := fun z => hv_neAO (hY.2.2.1 z) hY.2.1
    have ft : ∀ k, k < L.length → ¬ f k = t := fun k hk => hv_neOA (hY.2.2.2.1 k hk) (hY.2.2.1 (by omega))
    rcases hk with ⟨rfl, rfl⟩ | ⟨rfl, rfl⟩ | ⟨rfl, rfl, l1⟩ | ⟨rfl, x1, l1⟩ <;> rcases hk2 with ⟨rfl, rfl⟩ | ⟨rfl, rfl⟩ | ⟨rfl, rfl, l2⟩ | ⟨rfl, x2e, l2⟩
    · exact ⟨rfl, rfl⟩
    · rw [M8, M10, va_up_self, va_up_self] at e
      exact absurd e.symm ypl
    · rw [M8, M11, va_up_self, va_up_self] at e
      exact absurd e.symm (tpy l2)
    · rw [M8, M9, va_up_self, if_pos x2e] at e
      exact absurd e.symm (fpy _ l2)
    · rw [M8, M10, va_up_self, va_up_self] at e
      exact absurd e ypl
    · exact ⟨rfl, rfl⟩
    · rw [M10, M11, va_up_self, va_up_self] at e
      exact absurd e.symm (tpl l2)
    · rw [M10, M9, va_up_self, if_pos x2e] at e
      exact absurd e.symm (fpl _ l2)
    · rw [M8, M11, va_up_self, va_up_self] at e
      exact absurd e (tpy l1)
    · rw [M10, M11, va_up_self, va_up_self] at e
      exact absurd e (tpl l1)
    · exact ⟨rfl, rfl⟩
    · rw [M11, M9, va_up_self, if_pos x2e] at e
      exact absurd e.symm (ft _ l2)
    · rw [M8, M9, va_up_self, if_pos x1] at e
      exact absurd e (fpy _ l1)
    · rw [M10, M9, va_up_self, if_pos x1] at e
      exact absurd e (fpl _ l1)
    · rw [M11, M9, va_up_self, if_pos x1] at e
      exact absurd e (ft _ l1)
    · rw [M9, M9, if_pos x1, if_pos x2e] at e
      have := hY.2.2.2.2.2.1 _ _ l1 l2 e
      exact ⟨rfl, by omega⟩
  · rw [e12] at hl
    match k, hl with
    | 0, hl =>
      have z := keep 0 x hl (by omega)
      rw [adM_lo (by decide)] at z
      rw [Mlo 0 (by decide), z]
      show some (Sum.inr (5, _)) = some (Sum.inr (5, _))
      rw [Mlo 1 (by decide), Mlo 2 (by decide), adM_lo (by decide), adM_lo (by decide)]
    | 1, hl =>
      have z := keep 1 x hl (by omega)
      rw [adM_lo (by decide)] at z
      rw [Mlo 1 (by decide), z]
      rfl
    | 2, hl =>
      have z := keep 2 x hl (by omega)
      rw [adM_lo (by decide)] at z
      rw [Mlo 2 (by decide), z]
      show some (if x = 0 then _ else _) = some (if x = 0 then _ else _)
      rw [Mlo 3 (by decide), adM_lo (by decide)]
    | 3, hl =>
      have z := keep 3 x hl (by omega)
      rw [adM_lo (by decide)] at z
      rw [Mlo 3 (by decide), z]
      show some (if x = 0 then _ else _) = some (if x = 0 then _ else _)
      rw [Mlo 4 (by decide), Mlo 6 (by decide), adM_lo (by decide), adM_lo (by decide)]
    | 4, hl =>
      have z := keep 4 x hl (by omega)
      rw [adM_lo (by decide)] at z
      rw [Mlo 4 (by decide), z]
      show some (hoE _ _ _) = some (hoE _ _ _)
      rw [Mlo 5 (by decide), adM_lo (by decide)]
      rfl
    | 5, hl =>
      have z := keep 5 x hl (by omega)
      rw [adM_lo (by decide)] at z
      rw [Mlo 5 (by decide), z]
      rfl
    | 6, hl =>
      have z := keep 6 x hl (by omega)
      rw [adM_lo (by decide)] at z
      rw [Mlo 6 (by decide), z]
      show some (Sum.inr (1, _)) = some (Sum.inr (1, _))
      rw [Mlo 7 (by decide), adM_lo (by decide)]
      rfl
    | 7, hl =>
      rw [Mlo 7 (by decide)]
      show _ = some (Sum.inl (G.2.1 2, 20, Sum.inr (Sum.inr (Sum.inr (Sum.inr (paysF (upd (ar 12) m am) (M 8) x))))))
      rw [M8]
      by_cases c : x = d
      · subst c
        rw [eu, hv_up_eq]
        have e : va_up (paysF (ar 12) (b 8) x) i (some py) = paysF (upd (ar 12) m am) (va_up (b 8) m py) x := by
          funext j
          unfold paysF
          by_cases cj : j = i
          · subst cj
            rw [va_up_self, ← em, us, va_up_self, if_pos ⟨hi, ham⟩]
          · have nm : ¬ 20 * x + j = m := by omega
            rw [va_up_ne _ _ cj, um _ _ _ nm, va_up_ne _ _ nm]
        rw [e]
      · have z := keep 7 x hl (by omega)
        rw [adM_lo (by decide)] at z
        rw [z]
        show some (Sum.inl (G.2.1 2, 20, Sum.inr (Sum.inr (Sum.inr (Sum.inr (paysF (ar 12) (adM A b 8) x)))))) = _
        rw [b8]
        have e : paysF (ar 12) (b 8) x = paysF (upd (ar 12) m am) (va_up (b 8) m py) x := by
          funext j
          unfold paysF
          by_cases cj : j < 20
          · have nm : ¬ 20 * x + j = m := by omega
            rw [um _ _ _ nm, va_up_ne _ _ nm]
          · rw [if_neg (fun z => cj z.1), if_neg (fun z => cj z.1)]
        rw [e]
    | 8, hl =>
      show _ = some (Sum.inr (3, [Value.int (upd (ar 12) m am x), Value.ref (M 10 x), Value.int (upd (ar 13) m he x)]))
      rw [M8, M10]
      by_cases c : x = m
      · rw [c, va_up_self, va_up_self, us, us]
        exact upy
      · have z := keep 8 x (pm x c hl) (by omega)
        rw [b8] at z
        rw [va_up_ne _ _ c, va_up_ne _ _ c, um _ _ _ c, um _ _ _ c, z]
        show some (Sum.inr (3, _)) = some (Sum.inr (3, _))
        rw [b10]
    | 9, hl =>
      obtain ⟨h1, h2⟩ := hl
      show _ = some (poE ((va_up po m L (x / 32)).getD (x % 32) (0, 0, 0)))
      rw [M9]
      by_cases c : x / 32 = m
      · rw [c, va_up_self] at h2 ⊢
        rw [if_pos rfl]
        exact upf _ h2
      · rw [va_up_ne _ _ c] at h2 ⊢
        have z := keep 9 x ⟨pm _ c h1, h2⟩ (by omega)
        rw [b9] at z
        rw [if_neg c]
        exact z
    | 10, hl =>
      show _ = some (lObj G (M 11 x) (va_up po m L x).length)
      rw [M10, M11]
      by_cases c : x = m
      · rw [c, va_up_self, va_up_self, va_up_self]
        exact upl
      · have z := keep 10 x (pm x c hl) (by omega)
        rw [b10] at z
        rw [va_up_ne _ _ c, va_up_ne _ _ c, va_up_ne _ _ c, z]
        show some (lObj G (adM A b 11 x) (po x).length) = _
        rw [b11]
    | 11, hl =>
      obtain ⟨h1, h2⟩ := hl
      show _ = some (lArr G (fun k => M 9 (32 * x + k)) (va_up po m L x).length)
      rw [M11]
      by_cases c : x = m
      · rw [c, va_up_self] at h2 ⊢
        rw [va_up_self, upt h2]
        show some (Sum.inl (_, _, _)) = some (Sum.inl (_, _, _))
        rw [objs_cg (f := f) (g := fun k => M 9 (32 * m + k)) (fun k hk => by
          show f k = M 9 (32 * m + k)
          rw [M9, if_pos (by omega), show (32 * m + k) % 32 = k by omega])]
      · rw [va_up_ne _ _ c] at h2 ⊢
        have hp := pm x c h1
        have z := keep 11 x ⟨hp, h2⟩ (by omega)
        rw [b11] at z
        rw [va_up_ne _ _ c, z]
        show some (Sum.inl (G.2.1 3, capN (po x).length, Sum.inr (Sum.inr (Sum.inr (Sum.inr (objs (fun k => adM A b 9 (32 * x + k)) (po x).length)))))) = some (Sum.inl (_, _, _))
        have := hpo x hp
        rw [objs_cg (f := fun k => adM A b 9 (32 * x + k)) (g := fun k => M 9 (32 * x + k)) (fun k hk => by
          show adM A b 9 (32 * x + k) = M 9 (32 * x + k)
          rw [M9, b9, if_neg (by omega)])]
    | (x + 12), hl => exact hl.elim
/-- the dividend enters the list -/
theorem isD_addL (hD : isD G h ad n d dl dy rf ar fm po) (hdl : dl < d) {t2 : Nat} (ht : (t2 = ad 3 1 ∧ ¬ dl = 0) ∨ h t2 = none) (eu : u = hv_up (hv_up h t2 (lArr G (va_up (ad 6) dl (ad 6 dl)) (dl + 1))) (ad 2 1) (lObj G t2 (dl + 1))) : isD G u (adU ad 3 1 t2) n d (dl + 1) dy rf ar fm po := by
  rw [va_up_id] at eu
  have nk : ∀ k, ¬ k = 3 → adU ad 3 1 t2 k = ad k := fun k a => adU_nk a
  have n3 : adU ad 3 1 t2 3 = va_up (ad 3) 1 t2 := by
    funext i
    unfold adU va_up
    by_cases c : i = 1 <;> simp [c]
  have t21 : ¬ t2 = ad 2 1 := fun z => ht.elim (fun y => absurd (hD.2 3 1 2 1 (Or.inr ⟨rfl, y.2⟩) (show 1 < 2 by decide) (y.1.symm.trans z)).1 (by decide)) (fun y => by rw [z, isD_21 hD] at y; cases y)
  have keep : ∀ k i, dLive n d dl (ar 12) po k i → ¬ (k = 3 ∧ i = 1) → ¬ (k = 2 ∧ i = 1) → u (ad k i) = some (dCell G ad n d dl dy rf ar fm po k i) := fun k i hl c1 c2 => by
    have z := hD.1 k i hl
    rw [eu, hv_up_ne (fun e => c2 (hD.2 _ _ _ _ hl (show 1 < 2 by decide) e)), hv_up_ne (fun e => ?_)]
    · exact z
    · rcases ht with ⟨t1, t0⟩ | t1
      · rw [t1] at e
        exact c1 (hD.2 _ _ _ _ hl (Or.inr ⟨rfl, t0⟩) e)
      · rw [e, t1] at z
        cases z
  refine isD_gen hD (fun k i => k = 3 ∧ i = 1) (fun k i hl => ?_) (fun k i k2 i2 hk hk2 e => ⟨hk.1.trans hk2.1.symm, hk.2.trans hk2.2.symm⟩) (fun k i hl => ?_)
  · match k, hl with
    | 0, hl => exact Or.inl ⟨hl, by rw [nk 0 (by decide)]⟩
    | 1, hl => exact Or.inl ⟨hl, by rw [nk 1 (by decide)]⟩
    | 2, hl => exact Or.inl ⟨hl, by rw [nk 2 (by decide)]⟩
    | 3, hl =>
      rw [n3]
      rcases hl with ⟨rfl, c⟩ | ⟨rfl, _⟩
      · exact Or.inl ⟨Or.inl ⟨rfl, c⟩, va_up_ne _ _ (by decide)⟩
      · rcases ht with ⟨t1, t0⟩ | t1
        · exact Or.inl ⟨Or.inr ⟨rfl, t0⟩, by rw [va_up_self, t1]⟩
        · exact Or.inr ⟨by rw [va_up_self]; exact t1, rfl, rfl⟩
    | 4, hl => exact Or.inl ⟨hl, by rw [nk 4 (by decide)]⟩
    | 5, hl => exact Or.inl ⟨hl, by rw [nk 5 (by decide)]⟩
    | 6, hl => exact Or.inl ⟨hl, by rw [nk 6 (by decide)]⟩
    | 7, hl => exact Or.inl ⟨hl, by rw [nk 7 (by decide)]⟩
    | 8, hl => exact Or.inl ⟨hl, by rw [nk 8 (by decide)]⟩
    | 9, hl => exact Or.inl ⟨hl, by rw [nk 9 (by decide)]⟩
    | 10, hl => exact Or.inl ⟨hl, by rw [nk 10 (by decide)]⟩
    | 11, hl => exact Or.inl ⟨hl, by rw [nk 11 (by decide)]⟩
    | (x + 12), hl => exact hl.elim
  · match k, hl with
    | 0, hl =>
      rw [nk 0 (by decide), keep 0 i hl (by omega) (by omega)]
      rfl
    | 1, hl =>
      rw [nk 1 (by decide), keep 1 i hl (by omega) (by omega)]
      rfl
    | 2, hl =>
      rw [nk 2 (by decide)]
      by_cases c : i = 1
      · subst c
        rw [eu, hv_up_eq]
        show _ = some (lObj G (adU ad 3 1 t2 3 1) (dl + 1))
        rw [n3, va_up_self]
      · have h0 : i = 0 := by
          have : i < 2 := hl
          omega
        subst h0
        rw [keep 2 0 hl (by omega) (by omega)]
        show some (lObj G (ad 3 0) n) = some (lObj G (adU ad 3 1 t2 3 0) n)
        rw [n3, va_up_ne _ _ (by decide)]
    | 3, hl =>
      rw [n3]
      rcases hl with ⟨rfl, h0⟩ | ⟨rfl, h0⟩
      · rw [va_up_ne _ _ (by decide), keep 3 0 (Or.inl ⟨rfl, h0⟩) (by omega) (by omega)]
        show some (lArr G (ad 4) n) = some (lArr G (adU ad 3 1 t2 4) n)
        rw [nk 4 (by decide)]
      · rw [va_up_self, eu, hv_up_ne t21, hv_up_eq]
        show _ = some (lArr G (adU ad 3 1 t2 6) (dl + 1))
        rw [nk 6 (by decide)]
    | 4, hl =>
      rw [nk 4 (by decide), keep 4 i hl (by omega) (by omega)]
      show some (hoE _ _ _) = some (hoE _ _ _)
      rw [nk 5 (by decide)]
    | 5, hl =>
      rw [nk 5 (by decide), keep 5 i hl (by omega) (by omega)]
      rfl
    | 6, hl =>
      rw [nk 6 (by decide), keep 6 i hl (by omega) (by omega)]
      rfl
    | 7, hl =>
      rw [nk 7 (by decide), keep 7 i hl (by omega) (by omega)]
      rfl
    | 8, hl =>
      rw [nk 8 (by decide), keep 8 i hl (by omega) (by omega)]
      rfl
    | 9, hl =>
      rw [nk 9 (by decide), keep 9 i hl (by omega) (by omega)]
      rfl
    | 10, hl =>
      rw [nk 10 (by decide), keep 10 i hl (by omega) (by omega)]
      rfl
    | 11, hl =>
      rw [nk 11 (by decide), keep 11 i hl (by omega) (by omega)]
      rfl
    | (x + 12), hl => exact hl.elim
end PP
