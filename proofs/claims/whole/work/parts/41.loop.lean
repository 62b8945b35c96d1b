/-! THE CLAIM OUT OF ONE WALK OF THE LAW'S BODY. Your part is whole_start (and what it stands on); all else here is the same for every law, but numbers. -/
def R_law : String := "DividendDeskLaw"
def lw_P (b : Addr) (xs : List Int32) (args : Array Value) (s : State) : Prop := args = #[.ref b] ∧ s.IntsAt b xs ∧ xs.length ≤ 2048 ∧ (Jvm.Cond.and given_1 narrow_1).before args s = true
def lw_Q (_ : Array Value) (s : State) (o : Outcome) (t : State) : Prop := o = .returned (some (.int 1)) ∧ Framed s o t [] 601024 7293034
def lw_Z (below : List Frame) (a : Array Value) (s : State) : State → Prop := fun t => ∃ o, t.status = .running ∧ Ended t below o ∧ lw_Q a s o t
/-- the law's own end, with 1 on the stack, nothing written that was there before, its room as the claim has it -/
theorem lw_ret {p : Program} {l : Launch} {e : Env} {s : State} {m : MethodId} {below : List Frame} {meth : Method} {c : Code} {b : Nat} (hx : p.tables.exec = Jvm.exec) (hb : c.code = code) (hr : meth.sig.returnType = ret) (hlocks : meth.locks = false) {pc : Nat} {H : Heap} {ls : Array Slot} (hdg : decode code pc = .ok (.ireturn, 1)) : W p l e room_1 s m #[Value.ref b] below meth c H [] 601024 7293034 (lw_Z below #[Value.ref b] s) (F0 m pc ls [.int 1]) := by
  intro T hT X
  obtain ⟨fs, hret, hrun, hended, hW, hframe⟩ := X.leave (v := some (.int 1)) (hlocks := hlocks) (fun h => by rw [hr] at h; cases h)
  have hmeth' : T.vm.method? m = some meth := X.method'
  refine ⟨T.setFrames fs, ?_, .returned (some (.int 1)), hrun, hended, rfl, ⟨_, rfl⟩, hW, hframe⟩
  jvm_step X.here [X.here.top, hx, hb, hdg, hmeth', hr, ret, narrow_b1]
  (try refine ⟨rfl, ?_⟩); (try refine ⟨rfl, ?_⟩)
  first | (intro acts; rw [hret _ acts rfl rfl rfl]) | rw [hret _ _ rfl rfl rfl]
  exact Steps.refl _
/-- what holds at the law's entry: the machine, the code, the tables' words (any of lw_tbl by 'hts w (by decide +kernel)'), the script of L ints xs at the cell b, what the Statement gives of the start (any of its parts by flat_of_before) -/
def lw_At (p : Program) (s : State) (m : MethodId) (meth : Method) (c : Code) (b L : Nat) (xs : Nat → Int32) : Prop :=
  p.tables.exec = Jvm.exec ∧ c.code = code ∧ meth.sig.returnType = ret ∧ c.maxLocals = 7 ∧ s.vm.findClass R_law = some m.cls ∧ (∀ w ∈ lw_tbl, w.before #[Value.ref b] s = true) ∧ va_X b L xs s s.heap ∧ b < s.heap.size ∧ meth.locks = false ∧ (Jvm.Cond.and given_1 narrow_1).before #[Value.ref b] s = true
/-! ===== the law's loop ===== -/
theorem lw_and31 (a : Int32) : ∃ t : Nat, t < 32 ∧ a &&& 31 = nI t := by
  have e : (a &&& 31).toBitVec = a.toBitVec &&& 31#32 := rfl
  refine ⟨(a &&& 31).toBitVec.toNat, ?_, ?_⟩
  · rw [e, BitVec.toNat_and]
    exact Nat.lt_succ_of_le Nat.and_le_right
  · apply Int32.toBitVec_inj.mp
    show _ = BitVec.ofNat 32 _
    simp
theorem lw_more {L k : Nat} (hL : L ≤ 2048) (hk : k ≤ L) (h : ¬ Int32.ofNat L - 4 < nI k) : k + 4 ≤ L := by
  have e : (Int32.ofNat L - 4 : Int32).toInt = (L : Int) - 4 := by
    have e1 : (Int32.ofNat L).toInt = (L : Int) := nI_toInt (n := L) (by omega)
    rw [Int32.toInt_sub, e1, show (4 : Int32).toInt = 4 from rfl]
    exact Int.bmod_eq_of_le (by omega) (by omega)
  rw [Int32.lt_iff_toInt_lt, e, nI_toInt (by omega)] at h
  omega
theorem lw_tI {t : Nat} (h : t < 32) : (nI t).toInt = (t : Int) := nI_toInt (by omega)
section LOOP
variable {p : Program} {l : Launch} {e : Env} {s : State} {m : MethodId} {below : List Frame} {meth : Method} {c : Code} {b L : Nat} {xs : Nat → Int32} {G : hv_G} {x o oa : Nat} {md : Nat → Nat}
set_option maxHeartbeats 4000000 in
set_option maxRecDepth 100000 in
theorem lw_step {Q : State → Prop} {H : Heap} {locs : List Loc} {cells slots : Nat} {ls : Array Slot} (hlt : l.stackTraces = false) (S : lw_S p s m meth c b L xs G) (hL : L ≤ 2048) {k : Nat} (hk : k + 4 ≤ L) (V : lw_I G s x o oa md H locs) (hl : lv_has ls 7 [(0, .ref b), (1, .ref x), (2, .ref o), (3, .ref oa), (4, .int (nI k))]) (hc : cells + 600 ≤ 601024) (hs : slots + 3000 ≤ 7293034) (K : lw_K p l e s m below meth c b G x o oa md (nI k) (cells + 600) (slots + 3000) Q) : W p l e room_1 s m #[Value.ref b] below meth c H locs cells slots Q (F0 m 32 ls []) := by
  have C := S.1
  have h1 : vp_in (nI k + 1) L := by rw [show nI k + 1 = nI (k + 1) from nI_add k 1]; exact vp_in_nI (by omega) (by omega)
  have h2 : vp_in (nI k + 2) L := by rw [show nI k + 2 = nI (k + 2) from nI_add k 2]; exact vp_in_nI (by omega) (by omega)
  have h3 : vp_in (nI k + 3) L := by rw [show nI k + 3 = nI (k + 3) from nI_add k 3]; exact vp_in_nI (by omega) (by omega)
  refine lv_aload_n C.1 C.2.1 dL_law_32 rfl (lv_at hl 0 rfl) ?_
  refine lv_iload C.1 C.2.1 dL_law_33 (lv_at hl 4 rfl) ?_
  obtain ⟨J, hX, hM, v, th, I, -⟩ := id V
  refine lw_ld S I (i := nI k) (vp_in_nI (by omega) (by omega)) rfl dL_law_35 ?_
  refine lv_bipush (v := 31) C.1 C.2.1 dL_law_36 (by decide) ?_
  refine lv_iand C.1 C.2.1 dL_law_38 ?_
  obtain ⟨t, ht, et⟩ := lw_and31 (xs (nI k).toNatClampNeg)
  rw [et]
  match t, ht with
  | 0, ht => exact lv_tableIn (tgt := 132) C.1 C.2.1 dL_law_39 (by decide) (by decide) rfl (by decide) (lc_setTreaty hlt S h1 rfl h2 rfl h3 rfl V hl hc hs K)
  | 1, ht => exact lv_tableIn (tgt := 212) C.1 C.2.1 dL_law_39 (by decide) (by decide) rfl (by decide) (lc_addHolder hlt S h1 rfl h2 rfl V hl hc hs K)
  | 2, ht => exact lv_tableIn (tgt := 280) C.1 C.2.1 dL_law_39 (by decide) (by decide) rfl (by decide) (lc_setParts hlt S h1 rfl h2 rfl h3 rfl V hl hc hs K)
  | 3, ht => exact lv_tableIn (tgt := 360) C.1 C.2.1 dL_law_39 (by decide) (by decide) rfl (by decide) (lc_setShares hlt S h1 rfl h2 rfl V hl hc hs K)
  | 4, ht => exact lv_tableIn (tgt := 428) C.1 C.2.1 dL_law_39 (by decide) (by decide) rfl (by decide) (lc_giveForm hlt S h1 rfl V hl hc hs K)
  | 5, ht => exact lv_tableIn (tgt := 484) C.1 C.2.1 dL_law_39 (by decide) (by decide) rfl (by decide) (lc_pass hlt S h1 rfl V hl hc hs K)
  | 6, ht => exact lv_tableIn (tgt := 540) C.1 C.2.1 dL_law_39 (by decide) (by decide) rfl (by decide) (lc_day hlt S  V hl hc hs K)
  | 7, ht => exact lv_tableIn (tgt := 553) C.1 C.2.1 dL_law_39 (by decide) (by decide) rfl (by decide) (lc_shares hlt S h1 rfl V hl hc hs K)
  | 8, ht => exact lv_tableIn (tgt := 609) C.1 C.2.1 dL_law_39 (by decide) (by decide) rfl (by decide) (lc_isValid hlt S h1 rfl V hl hc hs K)
  | 9, ht => exact lv_tableIn (tgt := 672) C.1 C.2.1 dL_law_39 (by decide) (by decide) rfl (by decide) (lc_isLarge hlt S h1 rfl V hl hc hs K)
  | 10, ht => exact lv_tableIn (tgt := 735) C.1 C.2.1 dL_law_39 (by decide) (by decide) rfl (by decide) (lc_treatyRate hlt S h1 rfl V hl hc hs K)
  | 11, ht => exact lv_tableIn (tgt := 791) C.1 C.2.1 dL_law_39 (by decide) (by decide) rfl (by decide) (lc_pay hlt S h1 rfl V hl hc hs K)
  | 12, ht => exact lv_tableIn (tgt := 847) C.1 C.2.1 dL_law_39 (by decide) (by decide) rfl (by decide) (lc_dividends hlt S  V hl hc hs K)
  | 13, ht => exact lv_tableIn (tgt := 860) C.1 C.2.1 dL_law_39 (by decide) (by decide) rfl (by decide) (lc_gross hlt S h1 rfl h2 rfl V hl hc hs K)
  | 14, ht => exact lv_tableIn (tgt := 928) C.1 C.2.1 dL_law_39 (by decide) (by decide) rfl (by decide) (lc_held hlt S h1 rfl h2 rfl V hl hc hs K)
  | 15, ht => exact lv_tableIn (tgt := 996) C.1 C.2.1 dL_law_39 (by decide) (by decide) rfl (by decide) (lc_due hlt S h1 rfl h2 rfl V hl hc hs K)
  | 16, ht => exact lv_tableIn (tgt := 1064) C.1 C.2.1 dL_law_39 (by decide) (by decide) rfl (by decide) (lc_heldInAll hlt S  V hl hc hs K)
  | 17, ht => exact lv_tableIn (tgt := 1078) C.1 C.2.1 dL_law_39 (by decide) (by decide) rfl (by decide) (lc_refunded hlt S  V hl hc hs K)
  | 18, ht => exact lv_tableIn (tgt := 1092) C.1 C.2.1 dL_law_39 (by decide) (by decide) rfl (by decide) (lc_refund hlt S h1 rfl h2 rfl V hl hc hs K)
  | 19, ht => exact lv_tableIn (tgt := 1160) C.1 C.2.1 dL_law_39 (by decide) (by decide) rfl (by decide) (lc_claim hlt S h1 rfl h2 rfl V hl hc hs K)
  | t + 20, ht =>
    refine lv_tableOut (tgt := 1228) C.1 C.2.1 dL_law_39 (Or.inr (by rw [lw_tI ht]; omega)) (by decide) ?_
    exact W.widen (by omega) (by omega) (K H locs ls V hl)
set_option maxHeartbeats 4000000 in
set_option maxRecDepth 100000 in
theorem lw_loop (hlt : l.stackTraces = false) (S : lw_S p s m meth c b L xs G) (hL : L ≤ 2048) : ∀ (n k : Nat), k ≤ L → L + 1 ≤ k + 4 * n → ∀ (H : Heap) (locs : List Loc) (cells slots : Nat), cells + 600 * n ≤ 601024 → slots + 3000 * n ≤ 7293034 → lw_I G s x o oa md H locs → ∀ ls : Array Slot, lv_has ls 7 [(0, .ref b), (1, .ref x), (2, .ref o), (3, .ref oa), (4, .int (nI k))] →
    W p l e room_1 s m #[Value.ref b] below meth c H locs cells slots (lw_Z below #[Value.ref b] s) (F0 m 23 ls []) := by
  have C := S.1
  intro n
  induction n with
  | zero =>
    intro k h1 h2
    exact absurd h2 (by omega)
  | succ n ih =>
    intro k h1 h2 H locs cells slots hc hs V ls hl
    obtain ⟨J, hX, hM, v, th, I, -⟩ := id V
    refine lv_iload C.1 C.2.1 dL_law_23 (lv_at hl 4 rfl) ?_
    refine lv_aload_n C.1 C.2.1 dL_law_25 rfl (lv_at hl 0 rfl) ?_
    refine va_slen (A := hv_A h_0 s.heap.size) C.1 C.2.1 S.2.2.1 S.2.2.2 (fun z => z.elim (fun y => y rfl) (fun y => Nat.not_le.mpr S.2.2.2 y)) I.2.2 dL_law_26 ?_
    refine lv_iconst (v := 4) C.1 C.2.1 dL_law_27 (by decide) ?_
    refine lv_isub C.1 C.2.1 dL_law_28 ?_
    refine lv_icmp_gt (tgt := 1234) C.1 C.2.1 dL_law_29 (by decide) (fun _ => ?_) (fun z => ?_)
    · refine lv_iconst (v := 1) C.1 C.2.1 dL_law_1234 (by decide) ?_
      refine va_forget (fun q hq => (I.2.2.2.2 q hq).elim (fun y => absurd rfl y) (fun y => y)) ?_
      refine W.widen (k := 601024) (n := 7293034) (by omega) (by omega) ?_
      exact lw_ret C.1 C.2.1 S.2.1 C.locks dL_law_1235
    · have hk := lw_more hL h1 z
      refine lw_step hlt S hL hk V hl (by omega) (by omega) (fun H locs ls V hl => ?_)
      refine lv_iinc (v := nI (k + 4)) (lv' := [(4, .int (nI (k + 4))), (0, .ref b), (1, .ref x), (2, .ref o), (3, .ref oa)]) C.1 C.2.1 dL_law_1228 hl (k := 4) rfl (nI_add k 4) (by decide) rfl (fun ls hl => ?_)
      refine lv_goto (tgt := 23) C.1 C.2.1 dL_law_1231 (by decide) ?_
      exact ih (k + 4) hk (by omega) H locs _ _ (by omega) (by omega) V ls (lv_sub hl [1, 2, 3, 4, 0] rfl)
end LOOP
