/-! ===== new nodes while a dividend is paid ===== -/
def adM (A b : Nat → Nat → Nat) : Nat → Nat → Nat := fun k => if k < 8 then A k else b k
theorem adM_lo {A b : Nat → Nat → Nat} {k : Nat} (h : k < 8) : adM A b k = A k := if_pos h
theorem adM_hi {A b : Nat → Nat → Nat} {k : Nat} (h : ¬ k < 8) : adM A b k = b k := if_neg h
theorem adM_self (A : Nat → Nat → Nat) : adM A A = A := by
  funext k
  unfold adM
  split <;> rfl
abbrev adV (ad : Nat → Nat → Nat) (d q qa : Nat) : Nat → Nat → Nat := adU (adU ad 6 d q) 7 d qa
def payDv (ar : Nat → Nat → Int32) (dy : Int32) (d : Nat) (c : Int32) (he : Nat → Int32) (i : Nat) : Nat → Nat → Int32 := va_up (va_up (va_up ar 11 (upd (ar 11) d dy)) 12 (payG ar d c i)) 13 (fillF (ar 13) (20 * d) he i)
def poS (po : Nat → List (Int32 × Int32 × Int32)) (d : Nat) (mk : Nat → List (Int32 × Int32 × Int32)) (i : Nat) : Nat → List (Int32 × Int32 × Int32) := fun m => if 20 * d ≤ m ∧ m < 20 * d + i then mk (m - 20 * d) else po m
theorem payDv_0 (ar : Nat → Nat → Int32) (dy : Int32) (d : Nat) (c : Int32) (he : Nat → Int32) : payDv ar dy d c he 0 = va_up ar 11 (upd (ar 11) d dy) := by
  unfold payDv payG
  rw [fill_0, fill_0]
  have e12 : va_up (va_up ar 11 (upd (ar 11) d dy)) 12 (ar 12) = va_up ar 11 (upd (ar 11) d dy) := by
    rw [show ar 12 = va_up ar 11 (upd (ar 11) d dy) 12 from rfl, va_up_id]
  rw [e12]
  rw [show ar 13 = va_up ar 11 (upd (ar 11) d dy) 13 from rfl, va_up_id]
theorem poS_0 (po : Nat → List (Int32 × Int32 × Int32)) (d : Nat) (mk : Nat → List (Int32 × Int32 × Int32)) : poS po d mk 0 = po := by
  funext m
  exact if_neg (by omega)
theorem poS_1 (po : Nat → List (Int32 × Int32 × Int32)) (d : Nat) (mk : Nat → List (Int32 × Int32 × Int32)) (i : Nat) : poS po d mk (i + 1) = va_up (poS po d mk i) (20 * d + i) (mk i) := by
  funext m
  show (if 20 * d ≤ m ∧ m < 20 * d + (i + 1) then mk (m - 20 * d) else po m) = (if m = 20 * d + i then mk i else if 20 * d ≤ m ∧ m < 20 * d + i then mk (m - 20 * d) else po m)
  by_cases c : m = 20 * d + i
  · subst c
    rw [if_pos (by omega), if_pos rfl, show 20 * d + i - 20 * d = i by omega]
  · rw [if_neg c]
    by_cases c2 : 20 * d ≤ m ∧ m < 20 * d + i
    · rw [if_pos c2, if_pos (by omega)]
    · rw [if_neg c2, if_neg (by omega)]
theorem payDv_1 (ar : Nat → Nat → Int32) (dy : Int32) (d : Nat) (c : Int32) (he : Nat → Int32) (i : Nat) : payDv ar dy d c he (i + 1) = va_up (va_up (payDv ar dy d c he i) 12 (upd (payDv ar dy d c he i 12) (20 * d + i) (ar 6 i * c))) 13 (upd (payDv ar dy d c he i 13) (20 * d + i) (he i)) := by
  have e1 : payDv ar dy d c he i 12 = payG ar d c i := rfl
  have e2 : payDv ar dy d c he i 13 = fillF (ar 13) (20 * d) he i := rfl
  rw [e1, e2, show upd (payG ar d c i) (20 * d + i) (ar 6 i * c) = payG ar d c (i + 1) from fill_1 _ _ (fun i => ar 6 i * c) i, fill_1]
  funext x
  unfold payDv va_up
  by_cases h : x = 13
  · simp [h]
  · by_cases h2 : x = 12 <;> simp [h, h2]
/-- a holder without shares: nothing changes -/
theorem payDv_s {ar : Nat → Nat → Int32} {dy : Int32} {d : Nat} {c : Int32} {he : Nat → Int32} {i : Nat} (hg : ar 12 (20 * d + i) = 0) (h6 : ar 6 i * c = 0) (hh : he i = ar 13 (20 * d + i)) : payDv ar dy d c he (i + 1) = payDv ar dy d c he i := by
  have e1 : payG ar d c (i + 1) = payG ar d c i := by
    funext x
    show fillF _ _ _ _ x = fillF _ _ _ _ x
    unfold fillF
    by_cases cx : x = 20 * d + i
    · subst cx
      rw [if_pos (by omega), if_neg (by omega), show 20 * d + i - 20 * d = i by omega]
      exact h6.trans hg.symm
    · by_cases c2 : 20 * d ≤ x ∧ x < 20 * d + i
      · rw [if_pos c2, if_pos (by omega)]
      · rw [if_neg c2, if_neg (by omega)]
  have e2 : fillF (ar 13) (20 * d) he (i + 1) = fillF (ar 13) (20 * d) he i := by
    funext x
    unfold fillF
    by_cases cx : x = 20 * d + i
    · subst cx
      rw [if_pos (by omega), if_neg (by omega), show 20 * d + i - 20 * d = i by omega, hh]
    · by_cases c2 : 20 * d ≤ x ∧ x < 20 * d + i
      · rw [if_pos c2, if_pos (by omega)]
      · rw [if_neg c2, if_neg (by omega)]
  unfold payDv
  rw [e1, e2]
theorem poS_s {po : Nat → List (Int32 × Int32 × Int32)} {d : Nat} {mk : Nat → List (Int32 × Int32 × Int32)} {i : Nat} (h : mk i = po (20 * d + i)) : poS po d mk (i + 1) = poS po d mk i := by
  rw [poS_1, h]
  funext m
  unfold va_up poS
  by_cases c : m = 20 * d + i
  · subst c
    rw [if_pos rfl, if_neg (by omega)]
  · rw [if_neg c]
theorem objs_cg {f g : Nat → Nat} {n : Nat} (h : ∀ k, k < n → f k = g k) : objs f n = objs g n := by
  funext k
  unfold objs
  by_cases c : k < n
  · rw [if_pos c, if_pos c, h k c]
  · rw [if_neg c, if_neg c]
section PN
variable {G : hv_G} {h u : hv} {ad : Nat → Nat → Nat} {n d dl : Nat} {dy : Int32} {rf : Int64} {ar : Nat → Nat → Int32} {fm : Nat → Int32} {po : Nat → List (Int32 × Int32 × Int32)}
theorem isD_addDv (hD : isD G h ad n d dl dy rf ar fm po) (hdl : dl ≤ d) (gz : ∀ j, j < 20 → ar 12 (20 * d + j) = 0) {q qa : Nat} {FM : Int32} (hq : h q = none) (ha : h qa = none) (hne : ¬ qa = q) (uq : u q = some (.inr (1, [.int dy, .int FM, .ref qa]))) (ua : u qa = some (.inl (G.2.1 2, 20, .inr (.inr (.inr (.inr (fun _ => none))))))) (uo : ∀ b e, h b = some e → u b = some e) :
    isD G u (adV ad d q qa) n (d + 1) dl dy rf (va_up ar 11 (upd (ar 11) d dy)) (va_up fm d FM) po := by
  have nk : ∀ k, ¬ k = 6 → ¬ k = 7 → adV ad d q qa k = ad k := fun k a b => by
    show adU (adU ad 6 d q) 7 d qa k = ad k
    rw [adU_nk b, adU_nk a]
  have n6 : adV ad d q qa 6 = va_up (ad 6) d q := by
    show adU (adU ad 6 d q) 7 d qa 6 = _
    rw [adU_nk (by decide)]
    funext i
    unfold adU va_up
    by_cases c : i = d <;> simp [c]
  have n7 : adV ad d q qa 7 = va_up (ad 7) d qa := by
    funext i
    show adU (adU ad 6 d q) 7 d qa 7 i = _
    unfold adU va_up
    by_cases c : i = d <;> simp [c]
  have pm : ∀ m, pmL (d + 1) (ar 12) m → pmL d (ar 12) m := fun m hm => by
    refine ⟨Nat.lt_of_not_le (fun z => hm.2 ?_), hm.2⟩
    have h2 := hm.1
    have := gz (m - 20 * d) (by omega)
    rw [show 20 * d + (m - 20 * d) = m by omega] at this
    exact this
  refine isD_gen hD (fun k i => (k = 6 ∧ i = d) ∨ (k = 7 ∧ i = d)) (fun k i hl => ?_) (fun k i k2 i2 hk hk2 e => ?_) (fun k i hl => ?_)
  · match k, hl with
    | 0, hl => exact Or.inl ⟨hl, by rw [nk 0 (by decide) (by decide)]⟩
    | 1, hl => exact Or.inl ⟨hl, by rw [nk 1 (by decide) (by decide)]⟩
    | 2, hl => exact Or.inl ⟨hl, by rw [nk 2 (by decide) (by decide)]⟩
    | 3, hl => exact Or.inl ⟨hl, by rw [nk 3 (by decide) (by decide)]⟩
    | 4, hl => exact Or.inl ⟨hl, by rw [nk 4 (by decide) (by decide)]⟩
    | 5, hl => exact Or.inl ⟨hl, by rw [nk 5 (by decide) (by decide)]⟩
    | 6, hl =>
      rw [n6]
      by_cases c : i = d
      · subst c
        exact Or.inr ⟨by rw [va_up_self]; exact hq, Or.inl ⟨rfl, rfl⟩⟩
      · exact Or.inl ⟨Nat.lt_of_le_of_ne (Nat.le_of_lt_succ hl) c, va_up_ne _ _ c⟩
    | 7, hl =>
      rw [n7]
      by_cases c : i = d
      · subst c
        exact Or.inr ⟨by rw [va_up_self]; exact ha, Or.inr ⟨rfl, rfl⟩⟩
      · exact Or.inl ⟨Nat.lt_of_le_of_ne (Nat.le_of_lt_succ hl) c, va_up_ne _ _ c⟩
    | 8, hl => exact Or.inl ⟨pm _ hl, by rw [nk 8 (by decide) (by decide)]⟩
    | 9, hl => exact Or.inl ⟨⟨pm _ hl.1, hl.2⟩, by rw [nk 9 (by decide) (by decide)]⟩
    | 10, hl => exact Or.inl ⟨pm _ hl, by rw [nk 10 (by decide) (by decide)]⟩
    | 11, hl => exact Or.inl ⟨⟨pm _ hl.1, hl.2⟩, by rw [nk 11 (by decide) (by decide)]⟩
    | (x + 12), hl => exact hl.elim
  · rcases hk with ⟨rfl, rfl⟩ | ⟨rfl, rfl⟩ <;> rcases hk2 with ⟨rfl, rfl⟩ | ⟨rfl, rfl⟩ <;> simp only [n6, n7, va_up_self] at e
    · exact ⟨rfl, rfl⟩
    · exact absurd e.symm hne
    · exact absurd e hne
    · exact ⟨rfl, rfl⟩
  · match k, hl with
    | 0, hl =>
      rw [nk 0 (by decide) (by decide), uo _ _ (hD.1 0 i hl)]
      rfl
    | 1, hl =>
      rw [nk 1 (by decide) (by decide), uo _ _ (hD.1 1 i hl)]
      rfl
    | 2, hl =>
      rw [nk 2 (by decide) (by decide), uo _ _ (hD.1 2 i hl)]
      show some (if i = 0 then _ else _) = some (if i = 0 then _ else _)
      rw [nk 3 (by decide) (by decide)]
    | 3, hl =>
      rw [nk 3 (by decide) (by decide)]
      rcases hl with ⟨rfl, h0⟩ | ⟨rfl, h0⟩
      · rw [uo _ _ (isD_30 hD h0)]
        show _ = some (lArr G (adV ad d q qa 4) n)
        rw [nk 4 (by decide) (by decide)]
      · rw [uo _ _ (isD_31 hD h0)]
        show _ = some (lArr G (adV ad d q qa 6) dl)
        rw [n6]
        show some (Sum.inl (_, _, _)) = some (Sum.inl (_, _, _))
        rw [objs_cg (f := va_up (ad 6) d q) (g := ad 6) (fun k hk => va_up_ne _ _ (by omega))]
    | 4, hl =>
      rw [nk 4 (by decide) (by decide), uo _ _ (hD.1 4 i hl)]
      show some (hoE _ _ _) = some (hoE _ _ _)
      rw [nk 5 (by decide) (by decide)]
      rfl
    | 5, hl =>
      rw [nk 5 (by decide) (by decide), uo _ _ (hD.1 5 i hl)]
      rfl
    | 6, hl =>
      show u (adV ad d q qa 6 i) = some (Sum.inr (1, [.int (upd (ar 11) d dy i), .int (va_up fm d FM i), .ref (adV ad d q qa 7 i)]))
      rw [n6, n7]
      by_cases c : i = d
      · subst c
        rw [va_up_self, va_up_self, va_up_self, uq]
        simp [upd]
      · have hi : i < d := Nat.lt_of_le_of_ne (Nat.le_of_lt_succ hl) c
        rw [va_up_ne _ _ c, va_up_ne _ _ c, va_up_ne _ _ c, uo _ _ (hD.1 6 i hi)]
        show some (Sum.inr (1, _)) = some (Sum.inr (1, _))
        simp [upd, c]
    | 7, hl =>
      show u (adV ad d q qa 7 i) = some (Sum.inl (G.2.1 2, 20, .inr (.inr (.inr (.inr (paysF (ar 12) (adV ad d q qa 8) i))))))
      rw [n7, nk 8 (by decide) (by decide)]
      by_cases c : i = d
      · subst c
        rw [va_up_self, ua]
        have e : paysF (ar 12) (ad 8) i = fun _ => none := by
          funext j
          exact if_neg (fun z => z.2 (gz j z.1))
        rw [e]
      · have hi : i < d := Nat.lt_of_le_of_ne (Nat.le_of_lt_succ hl) c
        rw [va_up_ne _ _ c, uo _ _ (hD.1 7 i hi)]
        rfl
    | 8, hl =>
      rw [nk 8 (by decide) (by decide), uo _ _ (hD.1 8 i (pm _ hl))]
      show some (Sum.inr (3, _)) = some (Sum.inr (3, _))
      rw [nk 10 (by decide) (by decide)]
      rfl
    | 9, hl =>
      rw [nk 9 (by decide) (by decide), uo _ _ (hD.1 9 i ⟨pm _ hl.1, hl.2⟩)]
      rfl
    | 10, hl =>
      rw [nk 10 (by decide) (by decide), uo _ _ (hD.1 10 i (pm _ hl))]
      show some (lObj _ _ _) = some (lObj _ _ _)
      rw [nk 11 (by decide) (by decide)]
    | 11, hl =>
      rw [nk 11 (by decide) (by decide), uo _ _ (hD.1 11 i ⟨pm _ hl.1, hl.2⟩)]
      show some (lArr _ _ _) = some (lArr _ _ _)
      rw [nk 9 (by decide) (by decide)]
    | (x + 12), hl => exact hl.elim
end PN
