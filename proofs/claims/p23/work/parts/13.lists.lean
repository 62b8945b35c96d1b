/-! ===== lists by what they hold ===== -/
theorem hv_mi {l : Launch} {y : MethodName} {ws : List Cond} {f lo mc ms : Nat} {G : hv_G} {h : hv} {sz : Nat} {avs : List Value} {P P' : Int32 → hv → Prop} (h1 : hv_Mi l y ws f lo mc ms G h sz avs P) (hq : ∀ r u, P r u → P' r u) : hv_Mi l y ws f lo mc ms G h sz avs P' :=
  hv_mono h1 (fun _ _ _ _ z => ⟨by obtain ⟨v, w, e, p, b⟩ := z.1; exact ⟨v, w, e, hq _ _ p, b⟩, z.2⟩)
theorem hv_ml {l : Launch} {y : MethodName} {ws : List Cond} {f lo mc ms : Nat} {G : hv_G} {h : hv} {sz : Nat} {avs : List Value} {P P' : Int64 → hv → Prop} (h1 : hv_Ml l y ws f lo mc ms G h sz avs P) (hq : ∀ r u, P r u → P' r u) : hv_Ml l y ws f lo mc ms G h sz avs P' :=
  hv_mono h1 (fun _ _ _ _ z => ⟨by obtain ⟨v, w, e, p, b⟩ := z.1; exact ⟨v, w, e, hq _ _ p, b⟩, z.2⟩)
theorem hv_mq {l : Launch} {y : MethodName} {ws : List Cond} {f lo mc ms : Nat} {G : hv_G} {h : hv} {sz : Nat} {avs : List Value} {P P' : Option Nat → hv → Prop} (h1 : hv_Mq l y ws f lo mc ms G h sz avs P) (hq : ∀ r u, P r u → P' r u) : hv_Mq l y ws f lo mc ms G h sz avs P' :=
  hv_mono h1 (fun _ _ _ _ z => ⟨by obtain ⟨v, w, e, p, b⟩ := z.1; exact ⟨v, w, e, hq _ _ p, b⟩, z.2⟩)
def capN (n : Nat) : Nat := if n ≤ 10 then 10 else if n ≤ 15 then 15 else if n ≤ 22 then 22 else if n ≤ 33 then 33 else 49
def gC (n : Nat) : Nat := if n = 0 ∨ n = capN n then 1 else 0
def gS (n : Nat) : Nat := if n = 0 ∨ n = capN n then capN (n + 1) else 0
theorem capN_le {n : Nat} (hn : n ≤ 49) : n ≤ capN n := by unfold capN; (repeat' split) <;> omega
theorem capN_49 (n : Nat) : capN n ≤ 49 := by unfold capN; (repeat' split) <;> omega
theorem capN_10 (n : Nat) : 10 ≤ capN n := by unfold capN; (repeat' split) <;> omega
theorem capN_grow {n : Nat} (hn : n < 49) (h : n = capN n) : capN (n + 1) = n + n / 2 := by
  unfold capN at *
  (repeat' split at h) <;> (repeat' split) <;> omega
theorem capN_same {n : Nat} (h0 : n ≠ 0) (hn : n < 49) (h : n ≠ capN n) : capN (n + 1) = capN n := by
  unfold capN at *
  (repeat' split at h) <;> (repeat' split) <;> omega
/-- the first n of f, as an array of references holds them -/
def objs (f : Nat → Nat) (n : Nat) : Nat → Option Nat := fun k => if k < n then some (f k) else none
theorem objs_in {f : Nat → Nat} {n k : Nat} (h : k < n) : objs f n k = some (f k) := if_pos h
theorem objs_add (f : Nat → Nat) (n : Nat) (y : Nat) : va_up (objs f n) n (some y) = objs (va_up f n y) (n + 1) := by
  funext k
  unfold va_up objs
  by_cases c : k = n
  · subst c
    simp
  · by_cases c2 : k < n
    · simp [c, c2, show k < n + 1 by omega]
    · simp [c, c2, show ¬ k < n + 1 by omega]
theorem objs_cpy (f : Nat → Nat) (n : Nat) : va_cpy (objs f n) (fun _ => none) 0 0 n = objs f n := by
  funext k
  by_cases c : k < n
  · rw [pk_cpy_in (Nat.zero_le _) (by omega), Nat.zero_add, Nat.sub_zero]
  · rw [pk_cpy_out (Or.inr (by omega))]
    unfold objs
    rw [if_neg c]
theorem objs_0 (f : Nat → Nat) : objs f 0 = fun _ => none := by
  funext k
  exact if_neg (Nat.not_lt_zero k)
abbrev lRef (G : hv_G) (t n : Nat) : Nat := if n = 0 then G.2.2 1 else t
abbrev lObj (G : hv_G) (t n : Nat) : va_E := .inr (0, [.int (nI n), .ref (lRef G t n), .int (nI n)])
abbrev lArr (G : hv_G) (f : Nat → Nat) (n : Nat) : va_E := .inl (G.2.1 3, capN n, .inr (.inr (.inr (.inr (objs f n)))))
theorem c_L_size (l : Launch) (G : hv_G) (h : hv) (sz : Nat) {a t n : Nat} (fa : h a = some (lObj G t n)) : hv_Mi l yJx4a65c_size_8abf5 wsJx4a65c_size_8abf5 0 0 0 0 G h sz [.ref a] (fun r u => u = h ∧ r = nI n) := c_AL_size0 l G h sz fa
theorem c_L_get (l : Launch) (G : hv_G) (h : hv) (sz : Nat) {a t n : Nat} {f : Nat → Nat} (fa : h a = some (lObj G t n)) (ft : h t = some (lArr G f n)) {j : Nat} (hj : j < n) (hn : n ≤ 49) : hv_Mq l yJx4a65c_get_915e3 wsJx4a65c_get_915e3 2 60 0 0 G h sz [.ref a, .int (nI j)] (fun r u => u = h ∧ r = some (f j)) := by
  have e : lRef G t n = t := if_neg (by omega)
  unfold lObj at fa
  rw [e] at fa
  refine hv_mq (c_AL_get0 l G h sz fa ft (nI j) (nI_nlt (b := 0) (Nat.zero_le _) (by omega)) (nI_lt hj (by omega)) (vp_in_nI (Nat.lt_of_lt_of_le hj (capN_le hn)) (Nat.lt_of_le_of_lt (capN_49 n) (by decide)))) (fun r u z => ⟨z.1, ?_⟩)
  rw [z.2, nI_clamp (by omega)]
  exact objs_in hj
/-- an element more: the array grows where it is full -/
theorem c_L_add (l : Launch) (G : hv_G) (h : hv) (sz : Nat) {a t n : Nat} {f : Nat → Nat} (fa : h a = some (lObj G t n)) (ft : n ≠ 0 → h t = some (lArr G f n)) (hn : n < 49) {y ci : Nat} {vs : List Value} {rc : vw_C} (fy : h y = some (.inr (ci, vs))) (hci : vwCl[ci]? = some rc) (hca : Cond.castable rc.1 "java/lang/Object" ∈ hv_nw) (hci0 : ci ≠ 0) (hel : ∀ k, k < n → ∃ vs2, h (f k) = some (.inr (ci, vs2))) : hv_Mi l yJx4a65c_add_9ea2d wsJx4a65c_add_9ea2d 6 240 (gC n) (gS n) G h sz [.ref a, .ref y]
    (fun r u => r = 1 ∧ ∃ t2 : Nat, ((t2 = t ∧ n ≠ 0) ∨ h t2 = none) ∧ u = hv_up (hv_up h t2 (lArr G (va_up f n y) (n + 1))) a (lObj G t2 (n + 1))) := by
  have e1 : ∀ t2, lRef G t2 (n + 1) = t2 := fun t2 => if_neg (by omega)
  by_cases h0 : n = 0
  · subst h0
    have g1 : gC 0 = 1 := rfl
    have g2 : gS 0 = 10 := rfl
    rw [g1, g2]
    refine hv_mi (c_AL_add_first l G h sz (mo := 0) fa fy hci hca hci0) (fun r u z => ⟨z.1, ?_⟩)
    obtain ⟨q, h1, h2⟩ := z.2
    refine ⟨q, Or.inr h1, ?_⟩
    rw [h2]
    unfold lArr lObj
    rw [e1, ← objs_add, objs_0]
    rfl
  · have e : lRef G t n = t := if_neg h0
    unfold lObj at fa
    rw [e] at fa
    have ht := ft h0
    by_cases hc : n = capN n
    · have g1 : gC n = 1 := if_pos (Or.inr hc)
      have g2 : gS n = n + n / 2 := by unfold gS; rw [if_pos (Or.inr hc), capN_grow hn hc]
      rw [g1, g2]
      unfold lArr at ht
      rw [← hc] at ht
      have hel2 : hv_El h (objs f n) n := fun i hi y2 hy => by
        rw [objs_in hi] at hy
        cases hy
        obtain ⟨vs2, e2⟩ := hel i hi
        exact ⟨ci, vs2, rc, e2, hci, hca⟩
      refine hv_mi (c_AL_add_more l G h sz ht hel2 (by have := capN_10 n; omega) (by omega) fa fy hci hca hci0) (fun r u z => ⟨z.1, ?_⟩)
      obtain ⟨q, h1, h2⟩ := z.2
      refine ⟨q, Or.inr h1, ?_⟩
      rw [h2]
      unfold lArr lObj
      rw [e1, ← objs_add, objs_cpy, capN_grow hn hc, ← nI_1 n]
    · have g1 : gC n = 0 := if_neg (fun z => z.elim h0 hc)
      have g2 : gS n = 0 := if_neg (fun z => z.elim h0 hc)
      rw [g1, g2]
      refine hv_mi (c_AL_add_room l G h sz ht (Nat.lt_of_le_of_ne (capN_le (by omega)) hc) (Nat.le_trans (capN_49 n) (by decide)) fa fy hci hca hci0) (fun r u z => ⟨z.1, t, Or.inl ⟨rfl, h0⟩, ?_⟩)
      rw [z.2]
      unfold lArr lObj
      rw [e1, ← objs_add, capN_same h0 hn hc, ← nI_1 n]
