/-! ===== the desk's state in a view: the same state as the reference's; ad gives each live node its address ===== -/
def pmL (d : Nat) (gr : Nat → Int32) (m : Nat) : Prop := m < 20 * d ∧ ¬ gr m = 0
/-- kinds of nodes: 0 desk, 1 rates, 2 lists, 3 their arrays, 4 holders, 5 parts, 6 dividends, 7 their arrays, 8 payments, 9 portions, 10 lists of portions, 11 their arrays -/
def dLive (n d dl : Nat) (gr : Nat → Int32) (po : Nat → List (Int32 × Int32 × Int32)) (k i : Nat) : Prop := match k with
  | 0 => i = 0
  | 1 => i < 2
  | 2 => i < 2
  | 3 => (i = 0 ∧ ¬ n = 0) ∨ (i = 1 ∧ ¬ dl = 0)
  | 4 => i < n
  | 5 => i < n
  | 6 => i < d
  | 7 => i < d
  | 8 => pmL d gr i
  | 9 => pmL d gr (i / 32) ∧ i % 32 < (po (i / 32)).length
  | 10 => pmL d gr i
  | 11 => pmL d gr i ∧ ¬ (po i).length = 0
  | _ => False
def prow (f : Nat → Int32) (i : Nat) : Nat → Int32 := fun k => if k < 20 then f (20 * i + k) else 0
def paysF (gr : Nat → Int32) (a8 : Nat → Nat) (i : Nat) : Nat → Option Nat := fun j => if j < 20 ∧ ¬ gr (20 * i + j) = 0 then some (a8 (20 * i + j)) else none
abbrev hoE (ar : Nat → Nat → Int32) (p i : Nat) : va_E := .inr (2, [.int (ar 4 i), .int (ar 5 i), .ref p, .int (ar 6 i), .int (ar 7 i), .int (ar 8 i)])
abbrev poE (x : Int32 × Int32 × Int32) : va_E := .inr (4, [.int x.1, .int x.2.1, .int x.2.2])
def dCell (G : hv_G) (ad : Nat → Nat → Nat) (n d dl : Nat) (dy : Int32) (rf : Int64) (ar : Nat → Nat → Int32) (fm : Nat → Int32) (po : Nat → List (Int32 × Int32 × Int32)) (k i : Nat) : va_E := match k with
  | 0 => .inr (5, [.ref (ad 1 0), .ref (ad 1 1), .ref (ad 2 0), .ref (ad 2 1), .int dy, .long rf])
  | 1 => .inl (G.2.1 0, 6, .inl (if i = 0 then ar 1 else ar 2))
  | 2 => if i = 0 then lObj G (ad 3 0) n else lObj G (ad 3 1) dl
  | 3 => if i = 0 then lArr G (ad 4) n else lArr G (ad 6) dl
  | 4 => hoE ar (ad 5 i) i
  | 5 => .inl (G.2.1 0, 20, .inl (prow (ar 9) i))
  | 6 => .inr (1, [.int (ar 11 i), .int (fm i), .ref (ad 7 i)])
  | 7 => .inl (G.2.1 2, 20, .inr (.inr (.inr (.inr (paysF (ar 12) (ad 8) i)))))
  | 8 => .inr (3, [.int (ar 12 i), .ref (ad 10 i), .int (ar 13 i)])
  | 9 => poE ((po (i / 32)).getD (i % 32) (0, 0, 0))
  | 10 => lObj G (ad 11 i) (po i).length
  | _ => lArr G (fun k => ad 9 (32 * i + k)) (po i).length
def isD (G : hv_G) (h : hv) (ad : Nat → Nat → Nat) (n d dl : Nat) (dy : Int32) (rf : Int64) (ar : Nat → Nat → Int32) (fm : Nat → Int32) (po : Nat → List (Int32 × Int32 × Int32)) : Prop :=
  (∀ k i, dLive n d dl (ar 12) po k i → h (ad k i) = some (dCell G ad n d dl dy rf ar fm po k i)) ∧ ∀ k i k2 i2, dLive n d dl (ar 12) po k i → dLive n d dl (ar 12) po k2 i2 → ad k i = ad k2 i2 → k = k2 ∧ i = i2
section ISD
variable {G : hv_G} {h h1 : hv} {ad : Nat → Nat → Nat} {n d dl : Nat} {dy : Int32} {rf : Int64} {ar : Nat → Nat → Int32} {fm : Nat → Int32} {po : Nat → List (Int32 × Int32 × Int32)}
theorem isD_0 (hD : isD G h ad n d dl dy rf ar fm po) : h (ad 0 0) = some (.inr (5, [.ref (ad 1 0), .ref (ad 1 1), .ref (ad 2 0), .ref (ad 2 1), .int dy, .long rf])) := hD.1 0 0 rfl
theorem isD_10 (hD : isD G h ad n d dl dy rf ar fm po) : h (ad 1 0) = some (.inl (G.2.1 0, 6, .inl (ar 1))) := hD.1 1 0 (show 0 < 2 by decide)
theorem isD_11 (hD : isD G h ad n d dl dy rf ar fm po) : h (ad 1 1) = some (.inl (G.2.1 0, 6, .inl (ar 2))) := hD.1 1 1 (show 1 < 2 by decide)
theorem isD_20 (hD : isD G h ad n d dl dy rf ar fm po) : h (ad 2 0) = some (lObj G (ad 3 0) n) := hD.1 2 0 (show 0 < 2 by decide)
theorem isD_21 (hD : isD G h ad n d dl dy rf ar fm po) : h (ad 2 1) = some (lObj G (ad 3 1) dl) := hD.1 2 1 (show 1 < 2 by decide)
theorem isD_30 (hD : isD G h ad n d dl dy rf ar fm po) (hn : ¬ n = 0) : h (ad 3 0) = some (lArr G (ad 4) n) := hD.1 3 0 (Or.inl ⟨rfl, hn⟩)
theorem isD_31 (hD : isD G h ad n d dl dy rf ar fm po) (hn : ¬ dl = 0) : h (ad 3 1) = some (lArr G (ad 6) dl) := hD.1 3 1 (Or.inr ⟨rfl, hn⟩)
theorem isD_4 (hD : isD G h ad n d dl dy rf ar fm po) {j : Nat} (hj : j < n) : h (ad 4 j) = some (hoE ar (ad 5 j) j) := hD.1 4 j hj
theorem isD_5 (hD : isD G h ad n d dl dy rf ar fm po) {j : Nat} (hj : j < n) : h (ad 5 j) = some (.inl (G.2.1 0, 20, .inl (prow (ar 9) j))) := hD.1 5 j hj
theorem isD_6 (hD : isD G h ad n d dl dy rf ar fm po) {j : Nat} (hj : j < d) : h (ad 6 j) = some (.inr (1, [.int (ar 11 j), .int (fm j), .ref (ad 7 j)])) := hD.1 6 j hj
theorem isD_7 (hD : isD G h ad n d dl dy rf ar fm po) {j : Nat} (hj : j < d) : h (ad 7 j) = some (.inl (G.2.1 2, 20, .inr (.inr (.inr (.inr (paysF (ar 12) (ad 8) j)))))) := hD.1 7 j hj
theorem isD_8 (hD : isD G h ad n d dl dy rf ar fm po) {m : Nat} (hm : pmL d (ar 12) m) : h (ad 8 m) = some (.inr (3, [.int (ar 12 m), .ref (ad 10 m), .int (ar 13 m)])) := hD.1 8 m hm
theorem isD_9 (hD : isD G h ad n d dl dy rf ar fm po) {m k : Nat} (hm : pmL d (ar 12) m) (hk : k < (po m).length) (h32 : k < 32) : h (ad 9 (32 * m + k)) = some (poE ((po m).getD k (0, 0, 0))) := by
  have e1 : (32 * m + k) / 32 = m := by omega
  have e2 : (32 * m + k) % 32 = k := by omega
  have z := hD.1 9 (32 * m + k) (show pmL d (ar 12) ((32 * m + k) / 32) ∧ (32 * m + k) % 32 < (po ((32 * m + k) / 32)).length by rw [e1, e2]; exact ⟨hm, hk⟩)
  rw [z]
  show some (poE ((po ((32 * m + k) / 32)).getD ((32 * m + k) % 32) (0, 0, 0))) = _
  rw [e1, e2]
theorem isD_A (hD : isD G h ad n d dl dy rf ar fm po) {m : Nat} (hm : pmL d (ar 12) m) : h (ad 10 m) = some (lObj G (ad 11 m) (po m).length) := hD.1 10 m hm
theorem isD_B (hD : isD G h ad n d dl dy rf ar fm po) {m : Nat} (hm : pmL d (ar 12) m) (hz : ¬ (po m).length = 0) : h (ad 11 m) = some (lArr G (fun k => ad 9 (32 * m + k)) (po m).length) := hD.1 11 m ⟨hm, hz⟩
/-- one cell changes -/
theorem isD_put (hD : isD G h ad n d dl dy rf ar fm po) (k i : Nat) (hl : dLive n d dl (ar 12) po k i) {dy2 : Int32} {rf2 : Int64} {ar2 : Nat → Nat → Int32} (h12 : ar2 12 = ar 12) {C : va_E} (e : h1 = hv_up h (ad k i) C) (hC : C = dCell G ad n d dl dy2 rf2 ar2 fm po k i) (ho : ∀ k2 i2, dLive n d dl (ar 12) po k2 i2 → ¬ (k2 = k ∧ i2 = i) → dCell G ad n d dl dy2 rf2 ar2 fm po k2 i2 = dCell G ad n d dl dy rf ar fm po k2 i2) : isD G h1 ad n d dl dy2 rf2 ar2 fm po := by
  unfold isD
  rw [h12]
  refine ⟨fun k2 i2 hl2 => ?_, hD.2⟩
  by_cases c : k2 = k ∧ i2 = i
  · obtain ⟨rfl, rfl⟩ := c
    rw [e, hv_up_eq, hC]
  · rw [e, hv_up_ne (fun z => c (hD.2 _ _ _ _ hl2 hl z)), ho k2 i2 hl2 c]
    exact hD.1 k2 i2 hl2
theorem isD_ar (hD : isD G h ad n d dl dy rf ar fm po) {ar2 : Nat → Nat → Int32} (e : ar = ar2) : isD G h ad n d dl dy rf ar2 fm po := e ▸ hD
theorem isD_sh (hD : isD G h ad n d dl dy rf ar fm po) {j : Nat} (hj : j < n) {v : Int32} (e : h1 = hv_up h (ad 4 j) (.inr (2, [.int (ar 4 j), .int (ar 5 j), .ref (ad 5 j), .int v, .int (ar 7 j), .int (ar 8 j)]))) : isD G h1 ad n d dl dy rf (va_up ar 6 (upd (ar 6) j v)) fm po := by
  refine isD_put hD 4 j hj rfl e ?_ (fun k2 i2 hl2 hne => ?_)
  · show _ = hoE _ _ _
    unfold hoE
    simp [va_up, upd]
  · match k2, hl2, hne with
    | 0, _, _ => rfl
    | 1, _, _ => rfl
    | 2, _, _ => rfl
    | 3, _, _ => rfl
    | 4, _, hne =>
      have c : ¬ i2 = j := fun z => hne ⟨rfl, z⟩
      show hoE _ _ _ = hoE _ _ _
      unfold hoE
      simp [va_up, upd, c]
    | 5, _, _ => rfl
    | 6, _, _ => rfl
    | 7, _, _ => rfl
    | 8, _, _ => rfl
    | 9, _, _ => rfl
    | 10, _, _ => rfl
    | 11, _, _ => rfl
    | (x + 12), hl2, _ => exact hl2.elim
theorem isD_fe (hD : isD G h ad n d dl dy rf ar fm po) {j : Nat} (hj : j < n) {v : Int32} (e : h1 = hv_up h (ad 4 j) (.inr (2, [.int (ar 4 j), .int (ar 5 j), .ref (ad 5 j), .int (ar 6 j), .int v, .int (ar 8 j)]))) : isD G h1 ad n d dl dy rf (va_up ar 7 (upd (ar 7) j v)) fm po := by
  refine isD_put hD 4 j hj rfl e ?_ (fun k2 i2 hl2 hne => ?_)
  · show _ = hoE _ _ _
    unfold hoE
    simp [va_up, upd]
  · match k2, hl2, hne with
    | 0, _, _ => rfl
    | 1, _, _ => rfl
    | 2, _, _ => rfl
    | 3, _, _ => rfl
    | 4, _, hne =>
      have c : ¬ i2 = j := fun z => hne ⟨rfl, z⟩
      show hoE _ _ _ = hoE _ _ _
      unfold hoE
      simp [va_up, upd, c]
    | 5, _, _ => rfl
    | 6, _, _ => rfl
    | 7, _, _ => rfl
    | 8, _, _ => rfl
    | 9, _, _ => rfl
    | 10, _, _ => rfl
    | 11, _, _ => rfl
    | (x + 12), hl2, _ => exact hl2.elim
theorem isD_es (hD : isD G h ad n d dl dy rf ar fm po) {j : Nat} (hj : j < n) {v : Int32} (e : h1 = hv_up h (ad 4 j) (.inr (2, [.int (ar 4 j), .int (ar 5 j), .ref (ad 5 j), .int (ar 6 j), .int (ar 7 j), .int v]))) : isD G h1 ad n d dl dy rf (va_up ar 8 (upd (ar 8) j v)) fm po := by
  refine isD_put hD 4 j hj rfl e ?_ (fun k2 i2 hl2 hne => ?_)
  · show _ = hoE _ _ _
    unfold hoE
    simp [va_up, upd]
  · match k2, hl2, hne with
    | 0, _, _ => rfl
    | 1, _, _ => rfl
    | 2, _, _ => rfl
    | 3, _, _ => rfl
    | 4, _, hne =>
      have c : ¬ i2 = j := fun z => hne ⟨rfl, z⟩
      show hoE _ _ _ = hoE _ _ _
      unfold hoE
      simp [va_up, upd, c]
    | 5, _, _ => rfl
    | 6, _, _ => rfl
    | 7, _, _ => rfl
    | 8, _, _ => rfl
    | 9, _, _ => rfl
    | 10, _, _ => rfl
    | 11, _, _ => rfl
    | (x + 12), hl2, _ => exact hl2.elim
theorem isD_held (hD : isD G h ad n d dl dy rf ar fm po) {m : Nat} (hm : pmL d (ar 12) m) {v : Int32} (e : h1 = hv_up h (ad 8 m) (.inr (3, [.int (ar 12 m), .ref (ad 10 m), .int v]))) : isD G h1 ad n d dl dy rf (va_up ar 13 (upd (ar 13) m v)) fm po := by
  refine isD_put hD 8 m hm rfl e ?_ (fun k2 i2 hl2 hne => ?_)
  · show Sum.inr (3, _) = Sum.inr (3, _)
    simp [va_up, upd]
  · match k2, hl2, hne with
    | 0, _, _ => rfl
    | 1, _, _ => rfl
    | 2, _, _ => rfl
    | 3, _, _ => rfl
    | 4, _, _ => rfl
    | 5, _, _ => rfl
    | 6, _, _ => rfl
    | 7, _, _ => rfl
    | 8, _, hne =>
      have c : ¬ i2 = m := fun z => hne ⟨rfl, z⟩
      show Sum.inr (3, _) = Sum.inr (3, _)
      simp [va_up, upd, c]
    | 9, _, _ => rfl
    | 10, _, _ => rfl
    | 11, _, _ => rfl
    | (x + 12), hl2, _ => exact hl2.elim
theorem isD_dk (hD : isD G h ad n d dl dy rf ar fm po) {dy2 : Int32} {rf2 : Int64} (e : h1 = hv_up h (ad 0 0) (.inr (5, [.ref (ad 1 0), .ref (ad 1 1), .ref (ad 2 0), .ref (ad 2 1), .int dy2, .long rf2]))) : isD G h1 ad n d dl dy2 rf2 ar fm po := by
  refine isD_put hD 0 0 rfl rfl e rfl (fun k2 i2 hl2 hne => ?_)
  match k2, hl2, hne with
  | 0, hl2, hne => exact absurd ⟨rfl, hl2⟩ hne
  | 1, _, _ => rfl
  | 2, _, _ => rfl
  | 3, _, _ => rfl
  | 4, _, _ => rfl
  | 5, _, _ => rfl
  | 6, _, _ => rfl
  | 7, _, _ => rfl
  | 8, _, _ => rfl
  | 9, _, _ => rfl
  | 10, _, _ => rfl
  | 11, _, _ => rfl
  | (x + 12), hl2, _ => exact hl2.elim
theorem isD_ge (hD : isD G h ad n d dl dy rf ar fm po) {F : Nat → Int32} (e : h1 = hv_up h (ad 1 0) (.inl (G.2.1 0, 6, .inl F))) : isD G h1 ad n d dl dy rf (va_up ar 1 F) fm po := by
  refine isD_put hD 1 0 (show 0 < 2 by decide) rfl e rfl (fun k2 i2 hl2 hne => ?_)
  match k2, hl2, hne with
  | 0, _, _ => rfl
  | 1, _, hne =>
    have c : ¬ i2 = 0 := fun z => hne ⟨rfl, z⟩
    simp [dCell, c, va_up]
  | 2, _, _ => rfl
  | 3, _, _ => rfl
  | 4, _, _ => rfl
  | 5, _, _ => rfl
  | 6, _, _ => rfl
  | 7, _, _ => rfl
  | 8, _, _ => rfl
  | 9, _, _ => rfl
  | 10, _, _ => rfl
  | 11, _, _ => rfl
  | (x + 12), hl2, _ => exact hl2.elim
theorem isD_la (hD : isD G h ad n d dl dy rf ar fm po) {F : Nat → Int32} (e : h1 = hv_up h (ad 1 1) (.inl (G.2.1 0, 6, .inl F))) : isD G h1 ad n d dl dy rf (va_up ar 2 F) fm po := by
  refine isD_put hD 1 1 (show 1 < 2 by decide) rfl e rfl (fun k2 i2 hl2 hne => ?_)
  match k2, hl2, hne with
  | 0, _, _ => rfl
  | 1, hl2, hne =>
    have c : i2 = 0 := by
      have h2 : i2 < 2 := hl2
      have h3 : ¬ i2 = 1 := fun z => hne ⟨rfl, z⟩
      omega
    subst c
    rfl
  | 2, _, _ => rfl
  | 3, _, _ => rfl
  | 4, _, _ => rfl
  | 5, _, _ => rfl
  | 6, _, _ => rfl
  | 7, _, _ => rfl
  | 8, _, _ => rfl
  | 9, _, _ => rfl
  | 10, _, _ => rfl
  | 11, _, _ => rfl
  | (x + 12), hl2, _ => exact hl2.elim
theorem prow_upd (f : Nat → Int32) {i j : Nat} (hj : j < 20) (v : Int32) : upd (prow f i) j v = prow (upd f (20 * i + j) v) i := by
  funext k
  unfold upd prow
  by_cases c : k = j
  · subst c
    simp [hj]
  · by_cases c2 : k < 20
    · simp [c, c2, show ¬ 20 * i + k = 20 * i + j by omega]
    · simp [c, c2]
theorem prow_other (f : Nat → Int32) {i i2 j : Nat} (hj : j < 20) (hi : ¬ i2 = i) (v : Int32) : prow (upd f (20 * i + j) v) i2 = prow f i2 := by
  funext k
  unfold upd prow
  by_cases c2 : k < 20
  · simp [c2, show ¬ 20 * i2 + k = 20 * i + j by omega]
  · simp [c2]
theorem isD_pa (hD : isD G h ad n d dl dy rf ar fm po) {i j : Nat} (hi : i < n) (hj : j < 20) {v : Int32} (e : h1 = hv_up h (ad 5 i) (.inl (G.2.1 0, 20, .inl (upd (prow (ar 9) i) j v)))) : isD G h1 ad n d dl dy rf (va_up ar 9 (upd (ar 9) (20 * i + j) v)) fm po := by
  refine isD_put hD 5 i hi rfl e (by rw [prow_upd _ hj]; rfl) (fun k2 i2 hl2 hne => ?_)
  match k2, hl2, hne with
  | 0, _, _ => rfl
  | 1, _, _ => rfl
  | 2, _, _ => rfl
  | 3, _, _ => rfl
  | 4, _, _ => rfl
  | 5, _, hne =>
    have c : ¬ i2 = i := fun z => hne ⟨rfl, z⟩
    show Sum.inl (G.2.1 0, 20, Sum.inl (prow (upd (ar 9) (20 * i + j) v) i2)) = _
    rw [prow_other _ hj c]
    rfl
  | 6, _, _ => rfl
  | 7, _, _ => rfl
  | 8, _, _ => rfl
  | 9, _, _ => rfl
  | 10, _, _ => rfl
  | 11, _, _ => rfl
  | (x + 12), hl2, _ => exact hl2.elim
end ISD
