/-! ===== both sides, new ===== -/
theorem Rel_init : Rel 0 0 0 arI (fun _ => 0) (fun _ => []) := by
  refine ⟨⟨Nat.zero_le _, Nat.zero_le _, 0, Nat.zero_le _, rfl⟩, ⟨fun j hj => absurd hj (Nat.not_lt_zero j), ⟨fun _ => 0, fun _ => rfl, fun _ _ => rfl, Nat.zero_le _⟩, fun i j _ _ => ⟨0, Nat.zero_le _, rfl, fun _ => rfl⟩, fun j _ hj => ⟨?_, ?_⟩, fun k hk => ⟨⟨30, Nat.le_refl 30, ?_⟩, ⟨30, Nat.le_refl 30, ?_⟩⟩⟩, fun m _ _ => ⟨rfl, rfl, rfl, rfl⟩, fun D hD => absurd hD (Nat.not_lt_zero D), fun _ => Nat.zero_le _, fun D hD => absurd hD (Nat.not_lt_zero D)⟩
  · show filC (-1) 20 j = -1
    exact if_pos hj
  · show filC (-1) 20 j = -1
    exact if_pos hj
  · show filC 30 6 k = nI 30
    exact if_pos hk
  · show filC 30 6 k = nI 30
    exact if_pos hk
theorem isD_arI {G : hv_G} {h : hv} {ad : Nat → Nat → Nat} {fm : Nat → Int32} {po : Nat → List (Int32 × Int32 × Int32)} (hD : isD G h ad 0 0 0 0 0 (va_up (va_up (fun _ _ => 0) 1 (filC 30 6)) 2 (filC 30 6)) fm po) : isD G h ad 0 0 0 0 0 arI fm po := by
  refine ⟨fun k i hl => ?_, hD.2⟩
  have z := hD.1 k i hl
  rw [z]
  match k, hl with
  | 0, _ => rfl
  | 1, _ => rfl
  | 2, _ => rfl
  | 3, hl => exact hl.elim (fun z => absurd rfl z.2) (fun z => absurd rfl z.2)
  | 4, hl => exact absurd hl (Nat.not_lt_zero _)
  | 5, hl => exact absurd hl (Nat.not_lt_zero _)
  | 6, hl => exact absurd hl (Nat.not_lt_zero _)
  | 7, hl => exact absurd hl (Nat.not_lt_zero _)
  | 8, hl => exact absurd hl.1 (Nat.not_lt_zero _)
  | 9, hl => exact absurd hl.1.1 (Nat.not_lt_zero _)
  | 10, hl => exact absurd hl.1 (Nat.not_lt_zero _)
  | 11, hl => exact absurd hl.1.1 (Nat.not_lt_zero _)
  | (x + 12), hl => exact hl.elim
theorem LSt_init {G : hv_G} {hX hM : hv} {a o : Nat} {ad : Nat → Nat → Nat} {md : Nat → Nat} (ea : a = ad 0 0) (hD : isD G hX ad 0 0 0 0 0 (va_up (va_up (fun _ _ => 0) 1 (filC 30 6)) 2 (filC 30 6)) (fun _ => 0) (fun _ => [])) (hM2 : isM G hM o md 0 0 0 0 0 arI) : LSt G a o md hX hM 0 :=
  ⟨ad, 0, 0, 0, 0, arI, fun _ => 0, fun _ => [], ea, isD_arI hD, hM2, Rel_init⟩
/-- what the calls want of the state -/
theorem Rel_blank {n d : Nat} {dy : Int32} {ar : Nat → Nat → Int32} {fm : Nat → Int32} {po : Nat → List (Int32 × Int32 × Int32)} (R : Rel n d dy ar fm po) (hn : n < 20) : ar 6 n = 0 ∧ ar 7 n = -1 ∧ ar 8 n = -1 ∧ ∀ k, k < 20 → ar 9 (20 * n + k) = 0 := by
  obtain ⟨-, ⟨-, ⟨s, s1, s2, -⟩, h4, h5, -⟩, -⟩ := R
  refine ⟨by rw [s1, s2 n (Nat.le_refl n)]; rfl, (h5 n (Nat.le_refl n) hn).1, (h5 n (Nat.le_refl n) hn).2, fun k hk => ?_⟩
  obtain ⟨q, -, q2, q3⟩ := h4 n k hn hk
  rw [q2, q3 (Or.inl (Nat.le_refl n))]
  rfl
theorem Rel_gz {n d : Nat} {dy : Int32} {ar : Nat → Nat → Int32} {fm : Nat → Int32} {po : Nat → List (Int32 × Int32 × Int32)} (R : Rel n d dy ar fm po) (hd : d < 40) : ∀ j, j < 20 → ar 12 (20 * d + j) = 0 := fun j hj => (R.2.2.1 (20 * d + j) (by omega) (by omega)).1
theorem Rel_hld {n d : Nat} {dy : Int32} {ar : Nat → Nat → Int32} {fm : Nat → Int32} {po : Nat → List (Int32 × Int32 × Int32)} (R : Rel n d dy ar fm po) : ∀ j, j < n → ¬ ar 4 j = 2 → vp_in (ar 5 j) 6 := fun j hj h => ((R.2.1.1 j hj).resolve_left (fun z => h z.1)).2
