/-! ===== bodies with handlers ===== -/
theorem hv_enterH {l : Launch} {y : MethodName} {ws ws' : List Cond} {f lo mc ms : Nat} {G : hv_G} {h : hv} {sz : Nat} {avs : List Value} {cc : ByteArray} {maxL : Nat} {ret : Option FieldType} {own : String} {hh : List (Nat × Nat × Nat × Nat)} {Qf : Nat → Array Value → State → Outcome → State → Prop} {XC : Nat → String → State → State → Prop} (hy : plainName y.cls = true) (hw : ws = Cond.codeWith y cc maxL ret hh :: ws') (hown : y.cls = own) (hlen : (lg_sl avs).length ≤ maxL)
    (body : ∀ (p : Program) (e : Env) (s : State) (m : MethodId) (below : List Frame) (meth : Method) (c : Code), meth.sig.returnType = ret → c.exceptionTable.toList = tableOf hh → hv_C p s m avs.toArray meth c own cc maxL ws G h → hv_I G h s h s.heap [] → ∀ ls : Array Slot, lv_has ls maxL (lv_args 0 avs) →
      W p l e (hv_rm f mc ms lo) s m avs.toArray below meth c s.heap [] 0 0 (vx_MQ below (Qf s.heap.size) (XC s.heap.size) avs.toArray s mc ms (hv_A h s.heap.size)) (F0 m 0 ls [])) :
    vx_Met l y ws (hv_rm f mc ms lo) (va_Pc avs (hv_B G h sz)) (Qf sz) (XC sz) mc ms (hv_A h sz) := by
  subst hown
  refine vx_ofWH (cc := cc) (maxL := maxL) (ret := ret) (hh := hh) hy hw ?_
  intro p e s m args below meth c s₁ B hml hq
  obtain ⟨rfl, hsz, hP, hE⟩ := hq
  subst hsz
  rw [lg_entry_eq]
  exact body p e s m below meth c B.returns (vx_table (x := y) B (atoms_spec (ws := ws) B.pre _ (by rw [hw]; exact List.mem_cons_self))) ⟨B.exec, B.bytes, hml, findClass_of_methodNamed B.named, atoms_spec (ws := ws) B.pre, B.notSynchronized, hE⟩ ⟨hP, fun a ha => Or.inl ha, va_S.rf⟩ _ (lv_entry avs hlen)
/-- the out array beside the desk -/
def hv_out (G : hv_G) (oa : Nat) (v : Int64) : hv := fun x => if x = oa then some (.inl (G.2.1 4, 1, .inr (.inl (fun k => if k = 0 then v else 0)))) else none
theorem hv_out_eq (G : hv_G) (oa : Nat) (v : Int64) : hv_out G oa v oa = some (.inl (G.2.1 4, 1, .inr (.inl (fun k => if k = 0 then v else 0)))) := if_pos rfl
theorem hv_out_st (G : hv_G) (oa : Nat) (v w : Int64) : hv_up (hv_out G oa v) oa (.inl (G.2.1 4, 1, .inr (.inl (vp_updL (fun k => if k = 0 then v else 0) 0 w)))) = hv_out G oa w := by
  funext x
  unfold hv_up hv_out
  by_cases c : x = oa
  · rw [if_pos c, if_pos c]
    have e : vp_updL (fun k => if k = 0 then v else 0) 0 w = fun k => if k = 0 then w else 0 := by
      funext k
      unfold vp_updL
      by_cases ck : k = 0 <;> simp [ck]
    rw [e]
  · rw [if_neg c, if_neg c, if_neg c]
