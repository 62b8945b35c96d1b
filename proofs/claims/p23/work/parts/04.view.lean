/-! ===== the view of a heap: what its cells hold, by their addresses; every kit row lifted to it ===== -/
abbrev hv : Type := Nat → Option va_E
def hv_up (h : hv) (a : Nat) (e : va_E) : hv := fun b => if b = a then some e else h b
theorem hv_up_eq {h : hv} {a : Nat} {e : va_E} : hv_up h a e a = some e := if_pos rfl
theorem hv_up_ne {h : hv} {a b : Nat} {e : va_E} (n : b ≠ a) : hv_up h a e b = h b := if_neg n
theorem hv_up_up {h : hv} {a : Nat} {e e2 : va_E} : hv_up (hv_up h a e) a e2 = hv_up h a e2 := by
  funext b
  by_cases n : b = a
  · subst n; rw [hv_up_eq, hv_up_eq]
  · rw [hv_up_ne n, hv_up_ne n, hv_up_ne n]
theorem hv_up_same {h : hv} {a : Nat} {e : va_E} (ha : h a = some e) : hv_up h a e = h := by
  funext b
  by_cases n : b = a
  · subst n; rw [hv_up_eq, ha]
  · rw [hv_up_ne n]
theorem hv_ne {h : hv} {a b : Nat} {e1 e2 : va_E} (ha : h a = some e1) (hb : h b = some e2) (n : e1 ≠ e2) : a ≠ b := by
  rintro rfl
  rw [ha] at hb
  exact n (Option.some.inj hb)
theorem hv_neN {h : hv} {b q : Nat} {e : va_E} (hb : h b = some e) (hq : h q = none) : b ≠ q := by
  rintro rfl
  rw [hb] at hq
  cases hq
theorem hv_neO {h : hv} {a b c1 c2 : Nat} {f1 f2 : List Value} (ha : h a = some (.inr (c1, f1))) (hb : h b = some (.inr (c2, f2))) (n : c1 ≠ c2) : a ≠ b := hv_ne ha hb (fun e => n (congrArg Prod.fst (Sum.inr.inj e)))
theorem hv_neOA {h : hv} {a b : Nat} {x : Nat × List Value} {y : ClassId × vp_A} (ha : h a = some (.inr x)) (hb : h b = some (.inl y)) : a ≠ b := hv_ne ha hb (fun e => nomatch e)
theorem hv_neAO {h : hv} {a b : Nat} {x : Nat × List Value} {y : ClassId × vp_A} (ha : h a = some (.inl y)) (hb : h b = some (.inr x)) : a ≠ b := hv_ne ha hb (fun e => nomatch e)
theorem hv_neAIQ {h : hv} {a b n1 n2 : Nat} {c1 c2 : ClassId} {f : Nat → Int32} {g : Nat → Option Nat} (ha : h a = some (.inl (c1, n1, .inl f))) (hb : h b = some (.inl (c2, n2, .inr (.inr (.inr (.inr g)))))) : a ≠ b := hv_ne ha hb (fun e => nomatch (congrArg (fun z => z.2.2) (Sum.inl.inj e)))
theorem hv_neAQI {h : hv} {a b n1 n2 : Nat} {c1 c2 : ClassId} {f : Nat → Int32} {g : Nat → Option Nat} (ha : h a = some (.inl (c2, n2, .inr (.inr (.inr (.inr g)))))) (hb : h b = some (.inl (c1, n1, .inl f))) : a ≠ b := Ne.symm (hv_neAIQ hb ha)
abbrev hv_G : Type := va_G × (Nat → ClassId) × (Nat → Nat)
/-- the kinds of arrays: 0 and 1 int, 2 Payment, 3 Object, 4 long -/
abbrev hv_tys (G : hv_G) : List (ClassId × FieldType) := [(G.2.1 0, .int), (G.2.1 1, .int), (G.2.1 2, .object "DividendDesk$Payment"), (G.2.1 3, .object "java/lang/Object"), (G.2.1 4, .long)]
def hv_A (h : hv) (sz : Nat) : Nat → Prop := fun q => h q ≠ none ∨ sz ≤ q
def hv_P (G : hv_G) (h : hv) (H : Heap) : Prop := ∀ (a : Nat) (e : va_E), h a = some e → va_at G.1 vwCl (a, e) H
theorem hv_lt {G : hv_G} {h : hv} {H : Heap} (hP : hv_P G h H) {a : Nat} {e : va_E} (ha : h a = some e) : a < H.size := (hP a e ha).lt
theorem hv_one {G : hv_G} {h : hv} {H : Heap} (hP : hv_P G h H) {a : Nat} {e : va_E} (ha : h a = some e) : va_P G.1 vwCl [(a, e)] H := by
  intro k q hk
  cases k with
  | zero => cases hk; exact hP a e ha
  | succ k => cases hk
theorem hv_two {G : hv_G} {h : hv} {H : Heap} (hP : hv_P G h H) {a b : Nat} {e e2 : va_E} (ha : h a = some e) (hb : h b = some e2) : va_P G.1 vwCl [(a, e), (b, e2)] H := by
  intro k q hk
  match k, hk with
  | 0, hk => cases hk; exact hP a e ha
  | 1, hk => cases hk; exact hP b e2 hb
  | k + 2, hk => cases hk
/-- all cells of the view, as a list -/
def hv_ws (h : hv) (n : Nat) : va_W := (List.range n).filterMap (fun b => (h b).map (fun e => (b, e)))
theorem hv_ws_mem {h : hv} {n : Nat} {q : Nat × va_E} : q ∈ hv_ws h n ↔ q.1 < n ∧ h q.1 = some q.2 := by
  unfold hv_ws
  rw [List.mem_filterMap]
  constructor
  · rintro ⟨b, hb, he⟩
    cases hx : h b with
    | none => rw [hx] at he; cases he
    | some e => rw [hx] at he; cases he; exact ⟨List.mem_range.mp hb, hx⟩
  · rintro ⟨h1, h2⟩
    exact ⟨q.1, List.mem_range.mpr h1, by rw [h2]; rfl⟩
theorem hv_ws_D {h : hv} {n : Nat} {A : Nat → Prop} (hA : ∀ a, h a ≠ none → A a) : va_D A (hv_ws h n) := by
  have hp : (hv_ws h n).Pairwise (fun p q => p.1 < q.1) := by
    unfold hv_ws
    rw [List.pairwise_filterMap]
    refine List.Pairwise.imp ?_ List.pairwise_lt_range
    intro a b hab p hp q hq
    cases hx : h a with
    | none => rw [hx] at hp; cases hp
    | some e1 =>
      cases hy : h b with
      | none => rw [hy] at hq; cases hq
      | some e2 => rw [hx] at hp; rw [hy] at hq; cases hp; cases hq; exact hab
  refine ⟨fun i j p q hi hj e => ?_, fun k q hk => hA q.1 (by rw [(hv_ws_mem.mp (List.mem_of_getElem? hk)).2]; exact fun z => nomatch z)⟩
  obtain ⟨li, ei⟩ := List.getElem?_eq_some_iff.mp hi
  obtain ⟨lj, ej⟩ := List.getElem?_eq_some_iff.mp hj
  rw [List.pairwise_iff_getElem] at hp
  rcases Nat.lt_trichotomy i j with c | c | c
  · have := hp i j li lj c
    rw [ei, ej] at this
    omega
  · exact c
  · have := hp j i lj li c
    rw [ei, ej] at this
    omega
theorem hv_ix {G : hv_G} {h : hv} {H : Heap} (hP : hv_P G h H) {a : Nat} {e : va_E} (ha : h a = some e) : ∃ k : Nat, (hv_ws h H.size)[k]? = some (a, e) := List.getElem?_of_mem (hv_ws_mem.mpr ⟨hv_lt hP ha, ha⟩)
theorem hv_all {G : hv_G} {h : hv} {H : Heap} (hP : hv_P G h H) : va_P G.1 vwCl (hv_ws h H.size) H := fun k q hk => hP q.1 q.2 (hv_ws_mem.mp (List.mem_of_getElem? hk)).2
/-! what stands beside the view: class tables, nest links, castings, the empty array, throwables' statics, texts -/
def hv_nw : List Cond := [
  .fieldLinkNest "DividendDesk" 147 "DividendDesk$Payment" "amount" "I" "DividendDesk",
  .fieldLinkNest "DividendDesk" 152 "DividendDesk$Payment" "heldTax" "I" "DividendDesk",
  .fieldLinkNest "DividendDesk" 170 "DividendDesk$Dividend" "formsOnPayDay" "I" "DividendDesk",
  .fieldLinkNest "DividendDesk" 193 "DividendDesk$Dividend" "payDay" "I" "DividendDesk",
  .fieldLinkNest "DividendDesk" 201 "DividendDesk$Holder" "land" "I" "DividendDesk",
  .fieldLinkNest "DividendDesk" 75 "DividendDesk$Holder" "kind" "I" "DividendDesk",
  .fieldLinkNest "DividendDesk" 90 "DividendDesk$Holder" "shares" "I" "DividendDesk",
  .fieldLinkNest "DividendDesk" 98 "DividendDesk$Holder" "formEnd" "I" "DividendDesk",
  .fieldLinkNest "DividendDesk$Dividend" 28 "DividendDesk$Payment" "heldTax" "I" "DividendDesk",
  .methodLinkNest RX4 158 yX0_heldOfAll "DividendDesk",
  .methodLinkNest RX4 64 yX1_init "DividendDesk",
  .methodLinkNest RX4 80 yX1_partsOf "DividendDesk",
  .methodLinkNest RX4 84 yX1_changeParts "DividendDesk",
  .methodLinkNest RX4 109 yX1_endDay "DividendDesk",
  .methodLinkNest RX4 113 yX1_hasFormOn "DividendDesk",
  .methodLinkNest RX4 116 yX1_hasLargeHoldingOn "DividendDesk",
  .methodLinkNest RX4 134 yX0_init "DividendDesk",
  .methodLinkNest RX4 214 yX2_init "DividendDesk",
  .methodLinkNest RX4 228 yX1_partsInAll "DividendDesk",
  .methodLinkNest RX4 222 yX3_init "DividendDesk",
  .methodLinkNest RX4 225 yX2_add "DividendDesk",
  .methodLinkNest RX4 139 yX0_enter "DividendDesk",
  .methodLinkNest RX0 24 yX2_taxWith "DividendDesk",
  .methodLinkNest RX2 37 yX3_tax "DividendDesk",
  .methodLinkNest RX4 189 yX0_paymentTo "DividendDesk",
  .methodLinkNest RX4 155 yX2_taxWith "DividendDesk",
  .methodLinkNest RX4 235 yX2_lowerTo "DividendDesk",
  .castable RX1 "java/lang/Object", .castable RX0 "java/lang/Object", .castable RX3 "java/lang/Object",
  .castable "java/lang/IllegalArgumentException" "java/lang/IllegalArgumentException", .castable "java/lang/IllegalStateException" "java/lang/IllegalStateException", .castable "java/lang/IndexOutOfBoundsException" "java/lang/IndexOutOfBoundsException",
  .declares (Bundle.initS "java/lang/RuntimeException"), .declares (Bundle.initS "java/lang/Exception"), .declares (Bundle.initS Bundle.tN), .declares ⟨"java/lang/Object", "getClass", "()Ljava/lang/Class;"⟩]
def hv_nwOk : Cond → Bool
  | .fieldLinkNest .. | .methodLinkNest .. | .castable .. | .declares _ => true
  | _ => false
theorem hv_nw_ok : ∀ w ∈ hv_nw, hv_nwOk w = true := by decide +kernel
theorem hv_nw_tab : ∀ w ∈ hv_nw, w.onTables = true := by decide +kernel
theorem hv_nw_warm {w : Cond} (h : hv_nwOk w = true) {s U : State} (hW : s.WarmedH U.vm) (hZ : va_Nw w s) : va_Nw w U := by
  cases w <;> first
    | exact va_Nw.warmF hW hZ
    | exact va_Nw.warmM hW hZ
    | exact va_Nw.warmC hW hZ
    | exact va_Nw.warmD hW hZ
    | exact absurd h (by decide)
    | (simp [hv_nwOk] at h; done)
def hv_strs : List (Nat × String) := [(44, "no such land or rate"), (49, "no such kind"), (51, "land does not fit the kind"), (59, "no more holders"), (78, "no such membership or parts"), (88, "no such number of shares"), (96, "more shares than there are"), (101, "no such number of days"), (103, "beyond the last day"), (119, "a partnership has no treaty"), (125, "no such number of cents"), (127, "no more dividends, or nobody to pay"), (177, "no valid form"), (184, "no such holder"), (187, "no such dividend"), (196, "no shares on the pay day, or too late")]
def hv_ncs : List (String × String) := [("java/lang/IllegalArgumentException", "java/lang/IllegalStateException"), ("java/lang/IndexOutOfBoundsException", "java/lang/IllegalStateException")]
def hv_E (G : hv_G) (A : Nat → Prop) (U : State) (H : Heap) : Prop :=
  va_K G.1 vwCl (hv_tys G) U ∧ (∀ w ∈ hv_nw, va_Nw w U) ∧ (va_AO "java/lang/Object" U ∧ va_AO "DividendDesk$Payment" U) ∧ va_Mi "[Ljava/lang/Object;" (G.2.2 0) U ∧
  (va_Z "java/util/ArrayList" "DEFAULTCAPACITY_EMPTY_ELEMENTDATA" "[Ljava/lang/Object;" (.ref (G.2.2 1)) A U H ∧ va_T (.object "java/lang/Object") (G.2.2 1) 0 (fun _ => .null) A U H) ∧
  (vx_Zq Bundle.tN "UNASSIGNED_STACK" Bundle.steD A U H ∧ vx_Zq Bundle.tN "SUPPRESSED_SENTINEL" Bundle.listD A U H) ∧
  (∀ q ∈ hv_strs, vk_R "DividendDesk" q.1 q.2 (G.2.2 q.1) U) ∧ ∀ q ∈ hv_ncs, va_Nc q.1 q.2 U
theorem hv_E.warm {G : hv_G} {A : Nat → Prop} {s U : State} {H : Heap} (hW : s.WarmedH U.vm) (h : hv_E G A s H) : hv_E G A U H := by
  obtain ⟨h1, h2, ⟨h3, h4⟩, h5, ⟨h6, h7⟩, ⟨h8, h9⟩, h10, h11⟩ := h
  have hl := hW.alike
  exact ⟨va_K.moved hl h1, fun w hw => hv_nw_warm (hv_nw_ok w hw) hW (h2 w hw), ⟨va_AO.moved hl h3, va_AO.moved hl h4⟩, va_Mi.moved hl h5, ⟨va_Z.moved hl h6, va_T.moved hl h7⟩, ⟨vx_Zq.moved hl h8, vx_Zq.moved hl h9⟩, fun q hq => vk_R.warm hW (h10 q hq), fun q hq => va_Nc.moved hl (h11 q hq)⟩
theorem hv_E.kept {G : hv_G} {A : Nat → Prop} {U : State} {H H1 : Heap} (h : hv_E G A U H) (hq : ∀ a : Nat, a < H.size → ¬ A a → H1[a]? = H[a]?) : hv_E G A U H1 := by
  obtain ⟨h1, h2, h3, h5, ⟨h6, h7⟩, ⟨h8, h9⟩, h10, h11⟩ := h
  exact ⟨h1, h2, h3, h5, ⟨h6.kept hq, h7.kept hq⟩, ⟨h8.kept hq, h9.kept hq⟩, h10, h11⟩
theorem hv_E.narrow {G : hv_G} {A B : Nat → Prop} {U : State} {H : Heap} (h : hv_E G A U H) (hAB : ∀ q, B q → A q) : hv_E G B U H := by
  obtain ⟨h1, h2, h3, h5, ⟨h6, h7⟩, ⟨h8, h9⟩, h10, h11⟩ := h
  exact ⟨h1, h2, h3, h5, ⟨h6.narrow hAB, h7.narrow hAB⟩, ⟨h8.narrow hAB, h9.narrow hAB⟩, h10, h11⟩
/-- the machine's side of a walk: its code, its words, what stands beside the view -/
def hv_C (p : Program) (s : State) (m : MethodId) (args : Array Value) (meth : Method) (c : Code) (own : String) (cc : ByteArray) (nL : Nat) (Ts : List Cond) (G : hv_G) (h0 : hv) : Prop :=
  p.tables.exec = Jvm.exec ∧ c.code = cc ∧ c.maxLocals = nL ∧ s.vm.findClass own = some m.cls ∧ (∀ w ∈ Ts, w.before args s = true) ∧ meth.locks = false ∧ hv_E G (hv_A h0 s.heap.size) s s.heap
/-- the heap's side: h is what the heap holds; nothing else that was there has changed -/
def hv_I (G : hv_G) (h0 : hv) (s : State) (h : hv) (H : Heap) (locs : List Loc) : Prop :=
  hv_P G h H ∧ (∀ a, h a ≠ none → hv_A h0 s.heap.size a) ∧ va_S (hv_A h0 s.heap.size) s.heap H locs
theorem hv_new_A {h0 : hv} {s : State} (q : Nat) (h : s.heap.size ≤ q) : hv_A h0 s.heap.size q := Or.inr h
theorem hv_I.set {G : hv_G} {h0 h : hv} {s : State} {H H1 : Heap} {locs locs1 : List Loc} {a k : Nat} {e0 e1 : va_E} (I : hv_I G h0 s h H locs) (ha : h a = some e0) (hq : (hv_ws h H.size)[k]? = some (a, e0)) (h1 : va_P G.1 vwCl ((hv_ws h H.size).set k (a, e1)) H1) (h3 : va_S (hv_A h0 s.heap.size) s.heap H1 locs1) : hv_I G h0 s (hv_up h a e1) H1 locs1 := by
  refine ⟨fun b e hb => ?_, fun b hb => ?_, h3⟩
  · by_cases n : b = a
    · subst n
      rw [hv_up_eq] at hb
      cases hb
      exact h1 k (b, e1) (List.getElem?_set_self (List.getElem?_eq_some_iff.mp hq).1)
    · rw [hv_up_ne n] at hb
      obtain ⟨j, hj⟩ := hv_ix I.1 hb
      have hjk : k ≠ j := by
        rintro rfl
        rw [hq] at hj
        cases hj
        exact n rfl
      exact h1 j (b, e) (by rw [List.getElem?_set_ne hjk]; exact hj)
  · by_cases n : b = a
    · subst n
      exact I.2.1 b (by rw [ha]; exact fun z => nomatch z)
    · rw [hv_up_ne n] at hb
      exact I.2.1 b hb
theorem hv_I.push {G : hv_G} {h0 h : hv} {s : State} {H H1 : Heap} {locs locs1 : List Loc} {q : Nat} {e1 : va_E} (I : hv_I G h0 s h H locs) (h1 : va_P G.1 vwCl (hv_ws h H.size ++ [(q, e1)]) H1) (h2 : va_D (hv_A h0 s.heap.size) (hv_ws h H.size ++ [(q, e1)])) (h3 : va_S (hv_A h0 s.heap.size) s.heap H1 locs1) : h q = none ∧ hv_I G h0 s (hv_up h q e1) H1 locs1 := by
  have el : (hv_ws h H.size ++ [(q, e1)])[(hv_ws h H.size).length]? = some (q, e1) := by rw [List.getElem?_append_right (Nat.le_refl _), Nat.sub_self]; rfl
  have hn : h q = none := by
    cases hx : h q with
    | none => rfl
    | some e =>
      obtain ⟨j, hj⟩ := hv_ix I.1 hx
      have hl := (List.getElem?_eq_some_iff.mp hj).1
      have h4 := h2.1 j _ (q, e) (q, e1) (by rw [List.getElem?_append_left hl]; exact hj) el rfl
      omega
  refine ⟨hn, fun b e hb => ?_, fun b hb => ?_, h3⟩
  · by_cases n : b = q
    · subst n
      rw [hv_up_eq] at hb
      cases hb
      exact h1 _ (b, e1) el
    · rw [hv_up_ne n] at hb
      obtain ⟨j, hj⟩ := hv_ix I.1 hb
      exact h1 j (b, e) (by rw [List.getElem?_append_left (List.getElem?_eq_some_iff.mp hj).1]; exact hj)
  · by_cases n : b = q
    · subst n
      exact h2.2 _ (b, e1) el
    · rw [hv_up_ne n] at hb
      exact I.2.1 b hb
theorem hv_RA_inj {s : State} {c1 c2 : ClassId} {ty : FieldType} (h1 : va_RA s c1 ty) (h2 : va_RA s c2 ty) : c1 = c2 := by
  cases ty with
  | object C =>
    obtain ⟨_, _, _, _, _, a1⟩ := h1
    obtain ⟨_, _, _, _, _, a2⟩ := h2
    exact Option.some.inj (a1.symm.trans a2)
  | _ => exact Option.some.inj (Eq.trans (Eq.symm h1) h2)
theorem hv_tyEq {G : hv_G} {s : State} {cA : ClassId} {ty : FieldType} {k : Nat} (hK : va_K G.1 vwCl (hv_tys G) s) (h : va_K G.1 vwCl (hv_tys G ++ [(cA, ty)]) s) {c1 : ClassId} (hk : (hv_tys G)[k]? = some (c1, ty)) : cA = c1 :=
  hv_RA_inj (h.2 5 (cA, ty) rfl).2 (hK.2 k (c1, ty) hk).2
section HVR
variable {p : Program} {l : Launch} {e : Env} {R : Room} {s : State} {m : MethodId} {args : Array Value} {below : List Frame} {meth : Method} {c : Code} {H : Heap} {locs : List Loc} {cells slots : Nat} {Q : State → Prop}
variable {cc : ByteArray} {pc : Nat} {ls : Array Slot} {rest : List Value} {a : Nat} {G : hv_G} {h h0 : hv} {own : String} {nL : Nat} {Ts : List Cond}
theorem hv_C.ts (C : hv_C p s m args meth c own cc nL Ts G h0) {w : Cond} (hw : w ∈ Ts) : w.before args s = true := C.2.2.2.2.1 w hw
theorem hv_C.K (C : hv_C p s m args meth c own cc nL Ts G h0) : va_K G.1 vwCl (hv_tys G) s := C.2.2.2.2.2.2.1
theorem hv_C.nw (C : hv_C p s m args meth c own cc nL Ts G h0) {w : Cond} (hw : w ∈ hv_nw) : va_Nw w s := C.2.2.2.2.2.2.2.1 w hw
theorem hv_C.fix (C : hv_C p s m args meth c own cc nL Ts G h0) : CallFix p m c cc nL s args Ts own := ⟨C.1, C.2.1, C.2.2.1, C.2.2.2.1, C.2.2.2.2.1⟩
theorem hv_C.locks (C : hv_C p s m args meth c own cc nL Ts G h0) : meth.locks = false := C.2.2.2.2.2.1
/-! fields -/
theorem hv_get (C : hv_C p s m args meth c own cc nL Ts G h0) (I : hv_I G h0 s h H locs) {ci : Nat} {fs : List Value} (ha : h a = some (.inr (ci, fs))) {ref Cn : String} {T : u_T} {N index : Nat} (hin : ∀ w ∈ u_ws Cn T N, w ∈ Ts) (hc : vwCl[ci]? = some (Cn, T, N)) (k : Nat) (hk : k < N) (hlink : Cond.fieldLink own index ref (T k).2.1 (T k).2.2.1 ∈ Ts) (hsame : ∀ x, s.fieldFound? (T k).1 (T k).2.1 (T k).2.2.1 = some x → s.fieldFound? ref (T k).2.1 (T k).2.2.1 = some x) {v : Value} (hvv : fs[k]? = some v) (hdg : decode cc pc = .ok (.getfield index, 3))
    (kk : W p l e R s m args below meth c H locs cells slots Q (F0 m (pc + 3) ls (v :: rest))) : W p l e R s m args below meth c H locs cells slots Q (F0 m pc ls (.ref a :: rest)) :=
  va_get C.1 C.2.1 C.2.2.2.2.1 hin C.2.2.2.1 C.K (hv_one I.1 ha) 0 rfl hc k hk (C.ts hlink) hsame hvv hdg kk
theorem hv_getN (C : hv_C p s m args meth c own cc nL Ts G h0) (I : hv_I G h0 s h H locs) {ci : Nat} {fs : List Value} (ha : h a = some (.inr (ci, fs))) {ref host Cn : String} {T : u_T} {N index : Nat} (hin : ∀ w ∈ u_ws Cn T N, w ∈ Ts) (hc : vwCl[ci]? = some (Cn, T, N)) (k : Nat) (hk : k < N) (hlink : Cond.fieldLinkNest own index ref (T k).2.1 (T k).2.2.1 host ∈ hv_nw) (hsame : ∀ x, s.fieldFound? (T k).1 (T k).2.1 (T k).2.2.1 = some x → s.fieldFound? ref (T k).2.1 (T k).2.2.1 = some x) {v : Value} (hvv : fs[k]? = some v) (hdg : decode cc pc = .ok (.getfield index, 3))
    (kk : W p l e R s m args below meth c H locs cells slots Q (F0 m (pc + 3) ls (v :: rest))) : W p l e R s m args below meth c H locs cells slots Q (F0 m pc ls (.ref a :: rest)) :=
  va_getN C.1 C.2.1 C.2.2.2.2.1 hin C.2.2.2.1 C.K (hv_one I.1 ha) 0 rfl hc k hk (va_Nw.use rfl (C.nw hlink)) hsame hvv hdg kk
theorem hv_put (C : hv_C p s m args meth c own cc nL Ts G h0) (I : hv_I G h0 s h H locs) {ci : Nat} {fs : List Value} (ha : h a = some (.inr (ci, fs))) {ref Cn : String} {T : u_T} {N index : Nat} (hin : ∀ w ∈ u_ws Cn T N, w ∈ Ts) (ty0 : Nat → FieldType) (hty : ∀ k, k < N → parseFieldDescriptor (T k).2.2.1 = some (ty0 k)) (hnm : ∀ a, a < N → ∀ b, b < N → a ≠ b → (T a).2.1 ≠ (T b).2.1) (hc : vwCl[ci]? = some (Cn, T, N)) (k : Nat) (hk : k < N) (hlink : Cond.fieldLink own index ref (T k).2.1 (T k).2.2.1 ∈ Ts) (hsame : ∀ x, s.fieldFound? (T k).1 (T k).2.1 (T k).2.2.1 = some x → s.fieldFound? ref (T k).2.1 (T k).2.2.1 = some x) (hfin : (T k).2.2.2 = false) {ty : FieldType} {v : Value} (hd : parseFieldDescriptor (T k).2.2.1 = some ty) (hn : narrow ty v = v) (hfit : fits ty v = true) (hl : k < fs.length) (hdg : decode cc pc = .ok (.putfield index, 3))
    (kk : ∀ (H1 : Heap) (locs1 : List Loc), hv_I G h0 s (hv_up h a (.inr (ci, fs.set k v))) H1 locs1 → W p l e R s m args below meth c H1 locs1 cells slots Q (F0 m (pc + 3) ls rest)) : W p l e R s m args below meth c H locs cells slots Q (F0 m pc ls (v :: .ref a :: rest)) := by
  obtain ⟨q0, hq⟩ := hv_ix I.1 ha
  exact va_put C.1 C.2.1 C.2.2.2.2.1 hin ty0 hty hnm C.2.2.2.1 C.K (hv_all I.1) (hv_ws_D I.2.1) I.2.2 q0 hq hc k hk (C.ts hlink) hsame hfin hd hn hfit hl hdg (fun H1 locs1 h1 _ h3 => kk H1 locs1 (I.set ha hq h1 h3))
theorem hv_putF (C : hv_C p s m args meth c own cc nL Ts G h0) (I : hv_I G h0 s h H locs) {ci : Nat} {fs : List Value} (ha : h a = some (.inr (ci, fs))) {ref Cn : String} {T : u_T} {N index : Nat} (hin : ∀ w ∈ u_ws Cn T N, w ∈ Ts) (ty0 : Nat → FieldType) (hty : ∀ k, k < N → parseFieldDescriptor (T k).2.2.1 = some (ty0 k)) (hnm : ∀ a, a < N → ∀ b, b < N → a ≠ b → (T a).2.1 ≠ (T b).2.1) (hc : vwCl[ci]? = some (Cn, T, N)) (k : Nat) (hk : k < N) (hlink : Cond.fieldLink own index ref (T k).2.1 (T k).2.2.1 ∈ Ts) (hsame : ∀ x, s.fieldFound? (T k).1 (T k).2.1 (T k).2.2.1 = some x → s.fieldFound? ref (T k).2.1 (T k).2.2.1 = some x) (hfin : (T k).2.2.2 = true) (hinit : meth.name = "<init>") (hdecl : (T k).1 = own) {ty : FieldType} {v : Value} (hd : parseFieldDescriptor (T k).2.2.1 = some ty) (hn : narrow ty v = v) (hfit : fits ty v = true) (hl : k < fs.length) (hdg : decode cc pc = .ok (.putfield index, 3))
    (kk : ∀ (H1 : Heap) (locs1 : List Loc), hv_I G h0 s (hv_up h a (.inr (ci, fs.set k v))) H1 locs1 → W p l e R s m args below meth c H1 locs1 cells slots Q (F0 m (pc + 3) ls rest)) : W p l e R s m args below meth c H locs cells slots Q (F0 m pc ls (v :: .ref a :: rest)) := by
  obtain ⟨q0, hq⟩ := hv_ix I.1 ha
  exact va_putF C.1 C.2.1 C.2.2.2.2.1 hin ty0 hty hnm C.2.2.2.1 C.K (hv_all I.1) (hv_ws_D I.2.1) I.2.2 q0 hq hc k hk (C.ts hlink) hsame hfin hinit hdecl hd hn hfit hl hdg (fun H1 locs1 h1 _ h3 => kk H1 locs1 (I.set ha hq h1 h3))
theorem hv_putN (C : hv_C p s m args meth c own cc nL Ts G h0) (I : hv_I G h0 s h H locs) {ci : Nat} {fs : List Value} (ha : h a = some (.inr (ci, fs))) {ref host Cn : String} {T : u_T} {N index : Nat} (hin : ∀ w ∈ u_ws Cn T N, w ∈ Ts) (ty0 : Nat → FieldType) (hty : ∀ k, k < N → parseFieldDescriptor (T k).2.2.1 = some (ty0 k)) (hnm : ∀ a, a < N → ∀ b, b < N → a ≠ b → (T a).2.1 ≠ (T b).2.1) (hc : vwCl[ci]? = some (Cn, T, N)) (k : Nat) (hk : k < N) (hlink : Cond.fieldLinkNest own index ref (T k).2.1 (T k).2.2.1 host ∈ hv_nw) (hsame : ∀ x, s.fieldFound? (T k).1 (T k).2.1 (T k).2.2.1 = some x → s.fieldFound? ref (T k).2.1 (T k).2.2.1 = some x) (hfin : (T k).2.2.2 = false) {ty : FieldType} {v : Value} (hd : parseFieldDescriptor (T k).2.2.1 = some ty) (hn : narrow ty v = v) (hfit : fits ty v = true) (hl : k < fs.length) (hdg : decode cc pc = .ok (.putfield index, 3))
    (kk : ∀ (H1 : Heap) (locs1 : List Loc), hv_I G h0 s (hv_up h a (.inr (ci, fs.set k v))) H1 locs1 → W p l e R s m args below meth c H1 locs1 cells slots Q (F0 m (pc + 3) ls rest)) : W p l e R s m args below meth c H locs cells slots Q (F0 m pc ls (v :: .ref a :: rest)) := by
  obtain ⟨q0, hq⟩ := hv_ix I.1 ha
  exact va_putN C.1 C.2.1 C.2.2.2.2.1 hin ty0 hty hnm C.2.2.2.1 C.K (hv_all I.1) (hv_ws_D I.2.1) I.2.2 q0 hq hc k hk (va_Nw.use rfl (C.nw hlink)) hsame hfin hd hn hfit hl hdg (fun H1 locs1 h1 _ h3 => kk H1 locs1 (I.set ha hq h1 h3))
/-! arrays -/
theorem hv_iald (C : hv_C p s m args meth c own cc nL Ts G h0) (I : hv_I G h0 s h H locs) {n : Nat} {f : Nat → Int32} (ha : h a = some (.inl (G.2.1 0, n, .inl f))) {i : Int32} (hin : vp_in i n) (hdg : decode cc pc = .ok (.iaload, 1))
    (kk : W p l e R s m args below meth c H locs cells slots Q (F0 m (pc + 1) ls (.int (f i.toNatClampNeg) :: rest))) : W p l e R s m args below meth c H locs cells slots Q (F0 m pc ls (.int i :: .ref a :: rest)) :=
  va_iald C.1 C.2.1 C.K (hv_one I.1 ha) 0 0 rfl rfl hin hdg kk
theorem hv_lald (C : hv_C p s m args meth c own cc nL Ts G h0) (I : hv_I G h0 s h H locs) {n : Nat} {f : Nat → Int64} (ha : h a = some (.inl (G.2.1 4, n, .inr (.inl f)))) {i : Int32} (hin : vp_in i n) (hdg : decode cc pc = .ok (.laload, 1))
    (kk : W p l e R s m args below meth c H locs cells slots Q (F0 m (pc + 1) ls (.long (f i.toNatClampNeg) :: rest))) : W p l e R s m args below meth c H locs cells slots Q (F0 m pc ls (.int i :: .ref a :: rest)) :=
  va_lald C.1 C.2.1 C.K (hv_one I.1 ha) 0 4 rfl rfl hin hdg kk
theorem hv_pald (C : hv_C p s m args meth c own cc nL Ts G h0) (I : hv_I G h0 s h H locs) {n : Nat} {f : Nat → Option Nat} (ha : h a = some (.inl (G.2.1 2, n, .inr (.inr (.inr (.inr f)))))) {i : Int32} (hin : vp_in i n) (hdg : decode cc pc = .ok (.aaload, 1))
    (kk : W p l e R s m args below meth c H locs cells slots Q (F0 m (pc + 1) ls (va_rf (f i.toNatClampNeg) :: rest))) : W p l e R s m args below meth c H locs cells slots Q (F0 m pc ls (.int i :: .ref a :: rest)) :=
  va_aldq C.1 C.2.1 C.K (hv_one I.1 ha) 0 2 rfl rfl hin hdg kk
theorem hv_oald (C : hv_C p s m args meth c own cc nL Ts G h0) (I : hv_I G h0 s h H locs) {n : Nat} {f : Nat → Option Nat} (ha : h a = some (.inl (G.2.1 3, n, .inr (.inr (.inr (.inr f)))))) {i : Int32} (hin : vp_in i n) (hdg : decode cc pc = .ok (.aaload, 1))
    (kk : W p l e R s m args below meth c H locs cells slots Q (F0 m (pc + 1) ls (va_rf (f i.toNatClampNeg) :: rest))) : W p l e R s m args below meth c H locs cells slots Q (F0 m pc ls (.int i :: .ref a :: rest)) :=
  va_aldq C.1 C.2.1 C.K (hv_one I.1 ha) 0 3 rfl rfl hin hdg kk
theorem hv_iast (C : hv_C p s m args meth c own cc nL Ts G h0) (I : hv_I G h0 s h H locs) {n : Nat} {f : Nat → Int32} (ha : h a = some (.inl (G.2.1 0, n, .inl f))) {i x : Int32} (hin : vp_in i n) (hdg : decode cc pc = .ok (.iastore, 1))
    (kk : ∀ (H1 : Heap) (locs1 : List Loc), hv_I G h0 s (hv_up h a (.inl (G.2.1 0, n, .inl (upd f i.toNatClampNeg x)))) H1 locs1 → W p l e R s m args below meth c H1 locs1 cells slots Q (F0 m (pc + 1) ls rest)) : W p l e R s m args below meth c H locs cells slots Q (F0 m pc ls (.int x :: .int i :: .ref a :: rest)) := by
  obtain ⟨q0, hq⟩ := hv_ix I.1 ha
  exact va_iast C.1 C.2.1 C.K (hv_all I.1) (hv_ws_D I.2.1) I.2.2 q0 0 hq rfl hin hdg (fun H1 locs1 h1 _ h3 => kk H1 locs1 (I.set ha hq h1 h3))
theorem hv_last (C : hv_C p s m args meth c own cc nL Ts G h0) (I : hv_I G h0 s h H locs) {n : Nat} {f : Nat → Int64} (ha : h a = some (.inl (G.2.1 4, n, .inr (.inl f)))) {i : Int32} {x : Int64} (hin : vp_in i n) (hdg : decode cc pc = .ok (.lastore, 1))
    (kk : ∀ (H1 : Heap) (locs1 : List Loc), hv_I G h0 s (hv_up h a (.inl (G.2.1 4, n, .inr (.inl (vp_updL f i.toNatClampNeg x))))) H1 locs1 → W p l e R s m args below meth c H1 locs1 cells slots Q (F0 m (pc + 1) ls rest)) : W p l e R s m args below meth c H locs cells slots Q (F0 m pc ls (.long x :: .int i :: .ref a :: rest)) := by
  obtain ⟨q0, hq⟩ := hv_ix I.1 ha
  exact va_last C.1 C.2.1 C.K (hv_all I.1) (hv_ws_D I.2.1) I.2.2 q0 4 hq rfl hin hdg (fun H1 locs1 h1 _ h3 => kk H1 locs1 (I.set ha hq h1 h3))
/-- a Payment into an array of Payments -/
theorem hv_past (C : hv_C p s m args meth c own cc nL Ts G h0) (I : hv_I G h0 s h H locs) {n v : Nat} {f : Nat → Option Nat} (ha : h a = some (.inl (G.2.1 2, n, .inr (.inr (.inr (.inr f)))))) {vs : List Value} (hv9 : h v = some (.inr (3, vs))) {i : Int32} (hin : vp_in i n) (hdg : decode cc pc = .ok (.aastore, 1))
    (kk : ∀ (H1 : Heap) (locs1 : List Loc), hv_I G h0 s (hv_up h a (.inl (G.2.1 2, n, .inr (.inr (.inr (.inr (va_up f i.toNatClampNeg (some v)))))))) H1 locs1 → W p l e R s m args below meth c H1 locs1 cells slots Q (F0 m (pc + 1) ls rest)) : W p l e R s m args below meth c H locs cells slots Q (F0 m pc ls (.ref v :: .int i :: .ref a :: rest)) := by
  obtain ⟨q0, hq⟩ := hv_ix I.1 ha
  obtain ⟨q1, hq1⟩ := hv_ix I.1 hv9
  exact va_astq C.1 C.2.1 C.K (hv_all I.1) (hv_ws_D I.2.1) I.2.2 q0 2 q1 3 hq rfl hq1 rfl hin hdg (fun H1 locs1 h1 _ h3 => kk H1 locs1 (I.set ha hq h1 h3))
/-- an object of a class of ours into an array of Objects -/
theorem hv_oast (C : hv_C p s m args meth c own cc nL Ts G h0) (I : hv_I G h0 s h H locs) {n v : Nat} {f : Nat → Option Nat} (ha : h a = some (.inl (G.2.1 3, n, .inr (.inr (.inr (.inr f)))))) {ci : Nat} {vs : List Value} (hv9 : h v = some (.inr (ci, vs))) {r : vw_C} (hc : vwCl[ci]? = some r) (hca : Cond.castable r.1 "java/lang/Object" ∈ hv_nw) {i : Int32} (hin : vp_in i n) (hdg : decode cc pc = .ok (.aastore, 1))
    (kk : ∀ (H1 : Heap) (locs1 : List Loc), hv_I G h0 s (hv_up h a (.inl (G.2.1 3, n, .inr (.inr (.inr (.inr (va_up f i.toNatClampNeg (some v)))))))) H1 locs1 → W p l e R s m args below meth c H1 locs1 cells slots Q (F0 m (pc + 1) ls rest)) : W p l e R s m args below meth c H locs cells slots Q (F0 m pc ls (.ref v :: .int i :: .ref a :: rest)) := by
  obtain ⟨q0, hq⟩ := hv_ix I.1 ha
  obtain ⟨q1, hq1⟩ := hv_ix I.1 hv9
  exact va_astqO C.1 C.2.1 C.K (hv_all I.1) (hv_ws_D I.2.1) I.2.2 q0 3 q1 ci hq rfl (C.nw hca) hq1 hc hin hdg (fun H1 locs1 h1 _ h3 => kk H1 locs1 (I.set ha hq h1 h3))
theorem hv_alen (C : hv_C p s m args meth c own cc nL Ts G h0) (I : hv_I G h0 s h H locs) {cA : ClassId} {x : vp_A} (ha : h a = some (.inl (cA, x))) {ty : FieldType} (t0 : Nat) (ht : (hv_tys G)[t0]? = some (cA, ty)) {v : Int32} (hvv : Int32.ofNat x.1 = v) (hdg : decode cc pc = .ok (.arraylength, 1))
    (kk : W p l e R s m args below meth c H locs cells slots Q (F0 m (pc + 1) ls (.int v :: rest))) : W p l e R s m args below meth c H locs cells slots Q (F0 m pc ls (.ref a :: rest)) :=
  va_alen C.1 C.2.1 C.K (hv_one I.1 ha) 0 t0 rfl ht hvv hdg kk
/-! making -/
theorem hv_new (C : hv_C p s m args meth c own cc nL Ts G h0) (I : hv_I G h0 s h H locs) {Cn : String} {T : u_T} {N ci index : Nat} (hin : ∀ w ∈ u_ws Cn T N, w ∈ Ts) (ty : Nat → FieldType) (hty : ∀ k, k < N → parseFieldDescriptor (T k).2.2.1 = some (ty k)) (hcl : Cond.classLink own index Cn ∈ Ts) (hinst : Cond.instantiable Cn N ∈ Ts) (hini : Cond.initialized Cn ∈ Ts) (hc : vwCl[ci]? = some (Cn, T, N)) {fs : List Value} (hfs : ∀ j, j < N → defaultValue (ty j) = vp_V fs j) (hcells : cells + 1 ≤ R.cells) (hslots : slots + N ≤ R.slots) (hdg : decode cc pc = .ok (.new index, 3))
    (kk : ∀ (q : Nat) (H1 : Heap), h q = none → hv_I G h0 s (hv_up h q (.inr (ci, fs))) H1 locs → W p l e R s m args below meth c H1 locs (cells + 1) (slots + N) Q (F0 m (pc + 3) ls (.ref q :: rest))) : W p l e R s m args below meth c H locs cells slots Q (F0 m pc ls rest) :=
  va_new C.1 C.2.1 C.2.2.2.2.1 hin ty hty C.2.2.2.1 (C.ts hcl) (C.ts hinst) (C.ts hini) C.K (hv_all I.1) (hv_ws_D I.2.1) I.2.2 hv_new_A hc hfs hcells hslots hdg (fun q H1 h1 h2 h3 => by
    obtain ⟨e1, e2⟩ := I.push h1 h2 h3
    exact kk q H1 e1 e2)
theorem hv_newI (C : hv_C p s m args meth c own cc nL Ts G h0) (I : hv_I G h0 s h H locs) (harr : Cond.arrayClass .int ∈ Ts) {n : Int32} {N : Nat} (hn : ¬ n < 0) (hN : n.toNatClampNeg = N) (hbytes : N * 4 ≤ 536870912) (hcells : cells + 1 ≤ R.cells) (hslots : slots + N ≤ R.slots) (hdg : decode cc pc = .ok (.newarray .int, 2))
    (kk : ∀ (q : Nat) (H1 : Heap), h q = none → hv_I G h0 s (hv_up h q (.inl (G.2.1 0, N, .inl (fun _ => 0)))) H1 locs → W p l e R s m args below meth c H1 locs (cells + 1) (slots + N) Q (F0 m (pc + 2) ls (.ref q :: rest))) : W p l e R s m args below meth c H locs cells slots Q (F0 m pc ls (.int n :: rest)) :=
  va_newa (atype := .int) C.1 C.2.1 (C.ts harr) (ty := .int) rfl C.K (hv_all I.1) (hv_ws_D I.2.1) I.2.2 hv_new_A (N' := N) (a0 := (N, .inl (fun _ => 0))) (fun cA => rfl) hn hN hbytes hcells hslots hdg (fun q cA H1 hK h1 h2 h3 => by
    have e := hv_tyEq (k := 0) C.K hK rfl
    subst e
    obtain ⟨e1, e2⟩ := I.push h1 h2 h3
    exact kk q H1 e1 e2)
theorem hv_newL (C : hv_C p s m args meth c own cc nL Ts G h0) (I : hv_I G h0 s h H locs) (harr : Cond.arrayClass .long ∈ Ts) {n : Int32} {N : Nat} (hn : ¬ n < 0) (hN : n.toNatClampNeg = N) (hbytes : N * 8 ≤ 536870912) (hcells : cells + 1 ≤ R.cells) (hslots : slots + N ≤ R.slots) (hdg : decode cc pc = .ok (.newarray .long, 2))
    (kk : ∀ (q : Nat) (H1 : Heap), h q = none → hv_I G h0 s (hv_up h q (.inl (G.2.1 4, N, .inr (.inl (fun _ => 0))))) H1 locs → W p l e R s m args below meth c H1 locs (cells + 1) (slots + N) Q (F0 m (pc + 2) ls (.ref q :: rest))) : W p l e R s m args below meth c H locs cells slots Q (F0 m pc ls (.int n :: rest)) :=
  va_newa (atype := .long) C.1 C.2.1 (C.ts harr) (ty := .long) rfl C.K (hv_all I.1) (hv_ws_D I.2.1) I.2.2 hv_new_A (N' := N) (a0 := (N, .inr (.inl (fun _ => 0)))) (fun cA => rfl) hn hN hbytes hcells hslots hdg (fun q cA H1 hK h1 h2 h3 => by
    have e := hv_tyEq (k := 4) C.K hK rfl
    subst e
    obtain ⟨e1, e2⟩ := I.push h1 h2 h3
    exact kk q H1 e1 e2)
theorem hv_newO (C : hv_C p s m args meth c own cc nL Ts G h0) (I : hv_I G h0 s h H locs) {index : Nat} (hcl : Cond.classLink own index "java/lang/Object" ∈ Ts) {n : Int32} {N : Nat} (hn : ¬ n < 0) (hN : n.toNatClampNeg = N) (hbytes : N * 4 ≤ 536870912) (hcells : cells + 1 ≤ R.cells) (hslots : slots + N ≤ R.slots) (hdg : decode cc pc = .ok (.anewarray index, 3))
    (kk : ∀ (q : Nat) (H1 : Heap), h q = none → hv_I G h0 s (hv_up h q (.inl (G.2.1 3, N, .inr (.inr (.inr (.inr (fun _ => none))))))) H1 locs → W p l e R s m args below meth c H1 locs (cells + 1) (slots + N) Q (F0 m (pc + 3) ls (.ref q :: rest))) : W p l e R s m args below meth c H locs cells slots Q (F0 m pc ls (.int n :: rest)) :=
  va_newq C.1 C.2.1 C.2.2.2.1 (C.ts hcl) C.2.2.2.2.2.2.2.2.1.1 C.K (hv_all I.1) (hv_ws_D I.2.1) I.2.2 hv_new_A hn hN hbytes hcells hslots hdg (fun q cA H1 hK h1 h2 h3 => by
    have e := hv_tyEq (k := 3) C.K hK rfl
    subst e
    obtain ⟨e1, e2⟩ := I.push h1 h2 h3
    exact kk q H1 e1 e2)
theorem hv_newP (C : hv_C p s m args meth c own cc nL Ts G h0) (I : hv_I G h0 s h H locs) {index : Nat} (hcl : Cond.classLink own index "DividendDesk$Payment" ∈ Ts) {n : Int32} {N : Nat} (hn : ¬ n < 0) (hN : n.toNatClampNeg = N) (hbytes : N * 4 ≤ 536870912) (hcells : cells + 1 ≤ R.cells) (hslots : slots + N ≤ R.slots) (hdg : decode cc pc = .ok (.anewarray index, 3))
    (kk : ∀ (q : Nat) (H1 : Heap), h q = none → hv_I G h0 s (hv_up h q (.inl (G.2.1 2, N, .inr (.inr (.inr (.inr (fun _ => none))))))) H1 locs → W p l e R s m args below meth c H1 locs (cells + 1) (slots + N) Q (F0 m (pc + 3) ls (.ref q :: rest))) : W p l e R s m args below meth c H locs cells slots Q (F0 m pc ls (.int n :: rest)) :=
  va_newq C.1 C.2.1 C.2.2.2.1 (C.ts hcl) C.2.2.2.2.2.2.2.2.1.2 C.K (hv_all I.1) (hv_ws_D I.2.1) I.2.2 hv_new_A hn hN hbytes hcells hslots hdg (fun q cA H1 hK h1 h2 h3 => by
    have e := hv_tyEq (k := 2) C.K hK rfl
    subst e
    obtain ⟨e1, e2⟩ := I.push h1 h2 h3
    exact kk q H1 e1 e2)
/-- an object of the view, as the kit's rows want to see it -/
theorem hv_recv (C : hv_C p s m args meth c own cc nL Ts G h0) (I : hv_I G h0 s h H locs) {ci : Nat} {fs : List Value} (ha : h a = some (.inr (ci, fs))) {r : vw_C} (hc : vwCl[ci]? = some r) : ∃ cell : Cell, H[a]? = some cell ∧ cell.vm.isStatics = false ∧ s.vm.findClass r.1 = some cell.cls :=
  va_recv C.K (hv_one I.1 ha) (q0 := 0) hc rfl
theorem hv_cast (C : hv_C p s m args meth c own cc nL Ts G h0) (I : hv_I G h0 s h H locs) {ci : Nat} {fs : List Value} (ha : h a = some (.inr (ci, fs))) {r : vw_C} (hc : vwCl[ci]? = some r) {index : Nat} (hlink : Cond.classLink own index r.1 ∈ Ts) (hdg : decode cc pc = .ok (.checkcast index, 3))
    (kk : W p l e R s m args below meth c H locs cells slots Q (F0 m (pc + 3) ls (.ref a :: rest))) : W p l e R s m args below meth c H locs cells slots Q (F0 m pc ls (.ref a :: rest)) :=
  va_castS C.1 C.2.1 C.2.2.2.1 (C.ts hlink) (C.K.1 ci r hc).2 (hv_recv C I ha hc) hdg kk
end HVR
