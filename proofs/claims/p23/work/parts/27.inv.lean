/-! ===== contracts of callees that throw nothing here ===== -/
theorem hv_m0i {l : Launch} {y : MethodName} {ws : List Cond} {f lo mc ms : Nat} {G : hv_G} {h : hv} {sz : Nat} {avs : List Value} {P P2 : Int32 → hv → Prop} {px : String → hv → Prop} (h1 : hv_Xi l y ws f lo mc ms G h sz avs P px) (hq : ∀ r u, P r u → P2 r u) (hx : ∀ E u, ¬ px E u) : hv_Mi l y ws f lo mc ms G h sz avs P2 := by
  intro p e a1 a2 a3 s m args below a4 a5 a6 a7
  obtain ⟨k0, o, k1, k2, k3, k4⟩ := h1 p e a1 a2 a3 s m args below a4 a5 a6 a7
  rcases k4 with ⟨q1, q2⟩ | ⟨q, _, E, ce, L, ⟨u, _, hb, _⟩, _⟩
  · refine ⟨k0, o, k1, k2, k3, ?_, q2⟩
    obtain ⟨⟨v, w, e, p, b⟩, z⟩ := q1
    exact ⟨⟨v, w, e, hq _ _ p, b⟩, z⟩
  · exact absurd hb.1 (hx E u)
/-! ===== the law's arrays within a view ===== -/
abbrev inA (aa : Nat → Nat) (x : Nat) : Prop := x = aa 0 ∨ x = aa 1 ∨ x = aa 2 ∨ x = aa 3 ∨ x = aa 4
def cut (aa : Nat → Nat) (J : hv) : hv := fun x => if inA aa x then none else J x
def arv (aa : Nat → Nat) (J : hv) : hv := fun x => if inA aa x then J x else none
theorem cut_le (aa : Nat → Nat) (J : hv) : hv_le (cut aa J) J := fun x e h => by
  unfold cut at h
  split at h
  · cases h
  · exact h
theorem arv_le (aa : Nat → Nat) (J : hv) : hv_le (arv aa J) J := fun x e h => by
  unfold arv at h
  split at h
  · exact h
  · cases h
theorem cut_dis (aa : Nat → Nat) (J : hv) : hv_dis (cut aa J) (arv aa J) := fun x hx => by
  unfold arv
  unfold cut at hx
  by_cases c : inA aa x
  · rw [if_pos c] at hx; exact absurd rfl hx
  · rw [if_neg c]
theorem cut_up {aa : Nat → Nat} {J : hv} {x : Nat} (h : inA aa x) (e : va_E) : cut aa (hv_up J x e) = cut aa J := by
  funext y
  unfold cut
  by_cases c : inA aa y
  · rw [if_pos c, if_pos c]
  · rw [if_neg c, if_neg c, hv_up_ne (fun z => c (by rw [z]; exact h))]
def lvA (aa : Nat → Nat) (J : hv) : Prop := ∀ x, inA aa x → J x ≠ none
theorem cut_aft {aa : Nat → Nat} {J u J2 : hv} (hA : lvA aa J) (hf : hv_fr J (cut aa J) u J2) : hv_le u (cut aa J2) ∧ ∀ x, inA aa x → J2 x = J x := by
  obtain ⟨h1, h2⟩ := hf
  obtain ⟨h3, h4⟩ := h2 _ (arv_le aa J) (cut_dis aa J)
  refine ⟨fun x e hx => ?_, fun x hx => ?_⟩
  · unfold cut
    by_cases c : inA aa x
    · have z := h4 x (hv_nn hx)
      unfold arv at z
      rw [if_pos c] at z
      exact absurd z (hA x c)
    · rw [if_neg c]
      exact h1 x e hx
  · cases hj : J x with
    | none => exact absurd hj (hA x hx)
    | some e =>
      refine h3 x e ?_
      unfold arv
      rw [if_pos hx]
      exact hj
theorem isD_le {G : hv_G} {a J : hv} {ad : Nat → Nat → Nat} {n d dl : Nat} {dy : Int32} {rf : Int64} {ar : Nat → Nat → Int32} {fm : Nat → Int32} {po : Nat → List (Int32 × Int32 × Int32)} (hle : hv_le a J) (hD : isD G a ad n d dl dy rf ar fm po) : isD G J ad n d dl dy rf ar fm po := ⟨fun k i hl => hle _ _ (hD.1 k i hl), hD.2⟩
theorem hv_neLen {h : hv} {a b n1 n2 : Nat} {c1 c2 : ClassId} {x1 x2} (ha : h a = some (.inl (c1, n1, x1))) (hb : h b = some (.inl (c2, n2, x2))) (n : ¬ n1 = n2) : a ≠ b := hv_ne ha hb (fun e => n (congrArg (fun z => z.2.1) (Sum.inl.inj e)))
/-- the law's five arrays: the holders' numbers, the treaties, the pay days, the day and the counts, what was refunded -/
def LV (G : hv_G) (aa : Nat → Nat) (J : hv) (hF : Nat → Int64) (tF pF cF : Nat → Int32) (zF : Nat → Int64) : Prop :=
  J (aa 0) = some (.inl (G.2.1 4, 20, .inr (.inl hF))) ∧ J (aa 1) = some (.inl (G.2.1 0, 12, .inl tF)) ∧ J (aa 2) = some (.inl (G.2.1 0, 13, .inl pF)) ∧ J (aa 3) = some (.inl (G.2.1 0, 3, .inl cF)) ∧ J (aa 4) = some (.inl (G.2.1 4, 1, .inr (.inl zF)))
theorem LV.A {G : hv_G} {aa : Nat → Nat} {J : hv} {hF : Nat → Int64} {tF pF cF : Nat → Int32} {zF : Nat → Int64} (h : LV G aa J hF tF pF cF zF) : lvA aa J := fun x hx => by
  obtain ⟨h0, h1, h2, h3, h4⟩ := h
  rcases hx with e | e | e | e | e <;> rw [e]
  · exact hv_nn h0
  · exact hv_nn h1
  · exact hv_nn h2
  · exact hv_nn h3
  · exact hv_nn h4
theorem LV.kp {G : hv_G} {aa : Nat → Nat} {J J2 : hv} {hF : Nat → Int64} {tF pF cF : Nat → Int32} {zF : Nat → Int64} (h : LV G aa J hF tF pF cF zF) (hk : ∀ x, inA aa x → J2 x = J x) : LV G aa J2 hF tF pF cF zF := by
  obtain ⟨h0, h1, h2, h3, h4⟩ := h
  exact ⟨(hk _ (Or.inl rfl)).trans h0, (hk _ (Or.inr (Or.inl rfl))).trans h1, (hk _ (Or.inr (Or.inr (Or.inl rfl)))).trans h2, (hk _ (Or.inr (Or.inr (Or.inr (Or.inl rfl))))).trans h3, (hk _ (Or.inr (Or.inr (Or.inr (Or.inr rfl))))).trans h4⟩
/-! ===== numbers ===== -/
abbrev bI (b : Bool) : Int32 := if b = true then 1 else 0
def lgB (kd sh si t : Nat) : Bool := decide (kd = 1) && (decide (100000 ≤ sh) && (decide (1 ≤ si) && decide (si + 364 ≤ t)))
theorem lgB_iff {kd sh si t : Nat} : lgB kd sh si t = true ↔ kd = 1 ∧ 100000 ≤ sh ∧ 1 ≤ si ∧ si + 364 ≤ t := by
  unfold lgB
  simp
theorem nI_m1 : nI 0 - 1 = -1 := by decide
theorem nIm_eq {q : Nat} (h : q < 2 ^ 31) : nI q - 1 = -1 ↔ q = 0 := by
  cases q with
  | zero => exact ⟨fun _ => rfl, fun _ => nI_m1⟩
  | succ q =>
    rw [nI_pred]
    constructor
    · intro z
      have e := congrArg Int32.toInt z
      rw [nI_toInt (by omega)] at e
      have : (-1 : Int32).toInt = -1 := by decide
      omega
    · intro z; omega
theorem hf_N {t fo : Nat} (ht : t < 2 ^ 30) (hf0 : fo < 2 ^ 30) : hf (nI t) (nI fo - 1) = bI (decide (t < fo)) := by
  unfold hf bI
  cases fo with
  | zero =>
    rw [nI_m1, if_pos (by
      rw [Int32.lt_iff_toInt_lt, nI_toInt (by omega)]
      have : (-1 : Int32).toInt = -1 := by decide
      omega)]
    simp
  | succ q =>
    rw [nI_pred]
    by_cases c : t ≤ q
    · rw [if_neg (nI_nlt c (by omega))]
      simp [show t < q + 1 by omega]
    · rw [if_pos (nI_lt (by omega) (by omega))]
      simp [show ¬ t < q + 1 by omega]
theorem hlg_N {kd sh si t : Nat} (hk : kd < 2 ^ 30) (hs : sh < 2 ^ 30) (hi : si < 2 ^ 30) (ht : t < 2 ^ 30) : hlg (nI kd) (nI sh) (nI si - 1) (nI t) = bI (lgB kd sh si t) := by
  unfold hlg bI
  by_cases c1 : kd = 1
  · subst c1
    rw [if_neg (fun z => z rfl)]
    by_cases c2 : 100000 ≤ sh
    · rw [if_neg (show ¬ nI sh < 100000 from nI_nlt (b := 100000) c2 (by omega))]
      by_cases c3 : si = 0
      · subst c3
        rw [if_pos nI_m1, if_neg (fun z => by have := lgB_iff.mp z; omega)]
      · rw [if_neg (fun z => c3 ((nIm_eq (by omega)).mp z))]
        obtain ⟨q, rfl⟩ : ∃ q, si = q + 1 := ⟨si - 1, by omega⟩
        rw [nI_pred]
        have e := pk_sub_toInt (a := t) (b := q) (by omega) (by omega)
        have e5 : (365 : Int32).toInt = 365 := by decide
        by_cases c4 : q + 1 + 364 ≤ t
        · rw [if_neg (by rw [Int32.lt_iff_toInt_lt, e, e5]; omega), if_pos (lgB_iff.mpr ⟨rfl, c2, by omega, c4⟩)]
        · rw [if_pos (by rw [Int32.lt_iff_toInt_lt, e, e5]; omega), if_neg (fun z => c4 (lgB_iff.mp z).2.2.2)]
    · rw [if_pos (show nI sh < 100000 from nI_lt (b := 100000) (by omega) (by decide)), if_neg (fun z => c2 (lgB_iff.mp z).2.1)]
  · rw [if_pos (show ¬ nI kd = 1 from fun z => c1 ((nI_eq (b := 1) (by omega) (by decide)).mp z)), if_neg (fun z => c1 (lgB_iff.mp z).1)]
def rtN (b : Bool) (g l : Nat) : Nat := if b = true ∧ l < g then l else g
theorem rtN_le {b : Bool} {g l : Nat} (hg : g ≤ 30) : rtN b g l ≤ 30 := by
  unfold rtN
  split
  · omega
  · exact hg
theorem rD_0 (f : Nat → Int32) : rD f (nI 0 - 1) = 30 := by
  rw [nI_m1]
  exact if_pos (by decide)
theorem rD_N (f : Nat → Int32) {ld : Nat} (h1 : 1 ≤ ld) (h6 : ld ≤ 6) : rD f (nI ld - 1) = f (ld - 1) := by
  obtain ⟨q, rfl⟩ : ∃ q, ld = q + 1 := ⟨ld - 1, by omega⟩
  rw [nI_pred]
  unfold rD
  have e : iw (nI q) 0 5 = 1 := by
    unfold iw
    rw [if_neg (show ¬ nI q < 0 from nI_nlt (b := 0) (Nat.zero_le _) (by omega)), if_neg (show ¬ (5 : Int32) < nI q from nI_nlt (a := 5) (by omega) (by decide))]
  rw [e, if_neg (by decide), nI_clamp (by omega)]
  rfl
theorem ownF_N {b : Bool} {g l : Nat} (hg : g < 2 ^ 31) (hl : l < 2 ^ 31) : ownF (nI g) (nI l) (bI b) = nI (rtN b g l) := by
  unfold ownF rtN
  cases b with
  | false => rw [if_pos (show bI false = 0 from rfl), if_neg (fun z => by cases z.1)]
  | true =>
    rw [if_neg (show ¬ bI true = 0 from by decide)]
    by_cases c : l < g
    · rw [if_pos (nI_lt c hg), if_pos ⟨rfl, c⟩]
    · rw [if_neg (nI_nlt (by omega) hl), if_neg (fun z => c z.2)]
theorem iw_in {a n : Nat} (h : a < n) (hn : n < 2 ^ 31) : ¬ iw (nI a) 0 (nI n - 1) = 0 := by
  obtain ⟨q, rfl⟩ : ∃ q, n = q + 1 := ⟨n - 1, by omega⟩
  rw [nI_pred]
  unfold iw
  rw [if_neg (show ¬ nI a < 0 from nI_nlt (b := 0) (Nat.zero_le _) (by omega)), if_neg (nI_nlt (by omega) (by omega))]
  decide
theorem iw_inc {a lo hi : Nat} (h1 : lo ≤ a) (h2 : a ≤ hi) (hh : hi < 2 ^ 31) : ¬ iw (nI a) (nI lo) (nI hi) = 0 := by
  unfold iw
  rw [if_neg (nI_nlt h1 (by omega)), if_neg (nI_nlt h2 hh)]
  decide
