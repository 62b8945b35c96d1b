/-! ===== what stands at the law's entry: the tables, the statics, the texts ===== -/
def h_0 : hv := fun _ => none
section ST
variable {args : Array Value} {s : State}
theorem st_prim {ty : FieldType} (h : (Cond.arrayClass ty).before args s = true) (hp : ∀ C, ¬ ty = .object C) : ∃ cA : ClassId, ArrOfT s cA ty ∧ va_RA s cA ty := by
  obtain ⟨c, k, comp, h1, h2, h3⟩ := Cond.arrayClass_spec h
  refine ⟨c, fun N z => ⟨(fun k h => by cases h), k, h2, comp, h3⟩, ?_⟩
  cases ty with
  | object C => exact absurd rfl (hp C)
  | _ => exact h1
theorem st_obj {C : String} (h : (Cond.arrayOver (.object C)).before args s = true) : ∃ cA : ClassId, ArrOfT s cA (.object C) ∧ va_RA s cA (.object C) := by
  obtain ⟨comp, c, k, h1, h2, h3, h4, h5⟩ := Cond.arrayOver_spec h
  exact ⟨c, fun N z => ⟨(fun k h => by cases h), k, h3, comp, h4⟩, k, comp, h3, h4, h1, h5⟩
theorem st_texts (h1 : ∀ q ∈ hv_strs, (Cond.stringRef "DividendDesk" q.1 q.2).before args s = true) (h2 : ∀ q ∈ hv_strs, (Cond.exactly (.string "DividendDesk" q.1) "java/lang/String").before args s = true) : ∃ g : Nat → Nat, ∀ q ∈ hv_strs, vk_R "DividendDesk" q.1 q.2 (g q.1) s := by
  refine ⟨fun k => match (Term.string "DividendDesk" k).eval args s none [] s with | some (.ref a) => a | _ => 0, fun q hq => ?_⟩
  obtain ⟨a, c, cell, k, e1, -⟩ := Cond.exactly_spec (h2 q hq)
  refine vk_R.of (h1 q hq) ?_
  show (Term.string "DividendDesk" q.1).eval args s none [] s = some (.ref (match (Term.string "DividendDesk" q.1).eval args s none [] s with | some (.ref a) => a | _ => 0))
  rw [e1]
theorem st_apart : ∀ a : Nat, a < s.heap.size → ¬ hv_A h_0 s.heap.size a := fun a ha z => z.elim (fun y => y rfl) (fun y => Nat.not_le.mpr ha y)
end ST
theorem st_keys : ∀ q ∈ hv_strs, ¬ q.1 = 0 ∧ ¬ q.1 = 1 := by decide
theorem st_nw : ∀ w ∈ hv_nw, w ∈ lw_tbl := by decide +kernel
theorem st_strs : ∀ q ∈ hv_strs, Cond.stringRef "DividendDesk" q.1 q.2 ∈ lw_tbl := by decide +kernel
theorem st_exact : ∀ q ∈ hv_strs, Cond.exactly (.string "DividendDesk" q.1) "java/lang/String" ∈ flatC (Jvm.Cond.and given_1 narrow_1) := by decide +kernel
theorem st_nc : ∀ q ∈ hv_ncs, Cond.not (.castable q.1 q.2) ∈ flatC (Jvm.Cond.and given_1 narrow_1) := by decide +kernel
def st_dd : Term := .static "java/util/ArrayList" "DEFAULTCAPACITY_EMPTY_ELEMENTDATA" "[Ljava/lang/Object;"
theorem st_d1 : Cond.arrayOf st_dd (.object "java/lang/Object") ∈ flatC (Jvm.Cond.and given_1 narrow_1) := by decide +kernel
theorem st_d2 : Cond.eq (.length st_dd) (.int 0) ∈ flatC (Jvm.Cond.and given_1 narrow_1) := by decide +kernel
theorem st_d3 : Cond.isRef (.mirror "[Ljava/lang/Object;") ∈ flatC (Jvm.Cond.and given_1 narrow_1) := by decide +kernel
theorem st_d4 : Cond.isRef (.static Bundle.tN "UNASSIGNED_STACK" Bundle.steD) ∈ flatC (Jvm.Cond.and given_1 narrow_1) := by decide +kernel
theorem st_d5 : Cond.isRef (.static Bundle.tN "SUPPRESSED_SENTINEL" Bundle.listD) ∈ flatC (Jvm.Cond.and given_1 narrow_1) := by decide +kernel
set_option maxHeartbeats 4000000 in
set_option maxRecDepth 100000 in
theorem st_E {args : Array Value} {s : State} (hts : ∀ w ∈ lw_tbl, w.before args s = true) (hgv : (Jvm.Cond.and given_1 narrow_1).before args s = true) : ∃ G : hv_G, hv_E G (hv_A h_0 s.heap.size) s s.heap := by
  have hs := flat_of_before _ hgv
  obtain ⟨c0, i0, k0⟩ := u_known (C := RJx4a65c) (T := TJx4a65c) (N := 3) (n := 3) hts inJx4a65c (hts (.instantiable RJx4a65c 3) (by decide +kernel))
  obtain ⟨c1, i1, k1⟩ := u_known (C := RX0) (T := TX0) (N := 3) (n := 3) hts inX0 (hts (.instantiable RX0 3) (by decide +kernel))
  obtain ⟨c2, i2, k2⟩ := u_known (C := RX1) (T := TX1) (N := 6) (n := 6) hts inX1 (hts (.instantiable RX1 6) (by decide +kernel))
  obtain ⟨c3, i3, k3⟩ := u_known (C := RX2) (T := TX2) (N := 3) (n := 3) hts inX2 (hts (.instantiable RX2 3) (by decide +kernel))
  obtain ⟨c4, i4, k4⟩ := u_known (C := RX3) (T := TX3) (N := 3) (n := 3) hts inX3 (hts (.instantiable RX3 3) (by decide +kernel))
  obtain ⟨c5, i5, k5⟩ := u_known (C := RX4) (T := TX4) (N := 6) (n := 6) hts inX4 (hts (.instantiable RX4 6) (by decide +kernel))
  obtain ⟨a0, r0⟩ := st_prim (hts (.arrayClass .int) (by decide +kernel)) (fun C z => by cases z)
  obtain ⟨a1, r1⟩ := st_prim (hts (.arrayClass .int) (by decide +kernel)) (fun C z => by cases z)
  obtain ⟨a2, r2⟩ := st_obj (hts (.arrayOver (.object "DividendDesk$Payment")) (by decide +kernel))
  obtain ⟨a3, r3⟩ := st_obj (hts (.arrayOver (.object "java/lang/Object")) (by decide +kernel))
  obtain ⟨a4, r4⟩ := st_prim (hts (.arrayClass .long) (by decide +kernel)) (fun C z => by cases z)
  obtain ⟨mi, hmi⟩ := va_Mi.of (hs _ st_d3)
  obtain ⟨t, ht, hT⟩ := va_Tof (tm := st_dd) (ty := .object "java/lang/Object") (N := 0) (f := fun _ => .null) (A := hv_A h_0 s.heap.size) (by decide) (hs _ st_d1) (Cond.eq_int (hs _ st_d2) rfl) (fun j hj => absurd hj (Nat.not_lt_zero j)) st_apart
  obtain ⟨g, hg⟩ := st_texts (fun q hq => hts _ (st_strs q hq)) (fun q hq => hs _ (st_exact q hq))
  refine ⟨((fun k => match k with | 0 => c0 | 1 => c1 | 2 => c2 | 3 => c3 | 4 => c4 | _ => c5, fun k => match k with | 0 => i0 | 1 => i1 | 2 => i2 | 3 => i3 | 4 => i4 | _ => i5), fun k => match k with | 0 => a0 | 1 => a1 | 2 => a2 | 3 => a3 | _ => a4, fun k => if k = 0 then mi else if k = 1 then t else g k), ⟨fun k q hq => ?_, fun k q hq => ?_⟩, fun w hw => va_tabs (hv_nw_tab w hw) rfl (hts w (st_nw w hw)), ⟨va_AO.of (hts (.arrayOver (.object "java/lang/Object")) (by decide +kernel)), va_AO.of (hts (.arrayOver (.object "DividendDesk$Payment")) (by decide +kernel))⟩, hmi, ⟨va_Zof (hts (.laysStatic "java/util/ArrayList" "DEFAULTCAPACITY_EMPTY_ELEMENTDATA" "[Ljava/lang/Object;") (by decide +kernel)) (hts (.initialized "java/util/ArrayList") (by decide +kernel)) ht st_apart, hT⟩, ⟨vx_Zqof (hts (.laysStatic Bundle.tN "UNASSIGNED_STACK" Bundle.steD) (by decide +kernel)) (hts (.initialized Bundle.tN) (by decide +kernel)) (hs _ st_d4) st_apart, vx_Zqof (hts (.laysStatic Bundle.tN "SUPPRESSED_SENTINEL" Bundle.listD) (by decide +kernel)) (hts (.initialized Bundle.tN) (by decide +kernel)) (hs _ st_d5) st_apart⟩, fun q hq => ?_, fun q hq => va_Nc.of (hs _ (st_nc q hq))⟩
  · match k, hq with
    | 0, hq => cases hq; exact k0
    | 1, hq => cases hq; exact k1
    | 2, hq => cases hq; exact k2
    | 3, hq => cases hq; exact k3
    | 4, hq => cases hq; exact k4
    | 5, hq => cases hq; exact k5
    | k + 6, hq => cases hq
  · match k, hq with
    | 0, hq => cases hq; exact r0
    | 1, hq => cases hq; exact r1
    | 2, hq => cases hq; exact r2
    | 3, hq => cases hq; exact r3
    | 4, hq => cases hq; exact r4
    | k + 5, hq => cases hq
  · show vk_R "DividendDesk" q.1 q.2 (if q.1 = 0 then mi else if q.1 = 1 then t else g q.1) s
    rw [if_neg (st_keys q hq).1, if_neg (st_keys q hq).2]
    exact hg q hq
