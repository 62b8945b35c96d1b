/-! ===== two views side by side: a call sees one of them, the other stays ===== -/
def hv_j (a b : hv) : hv := fun x => match a x with | some e => some e | none => b x
def hv_dis (a b : hv) : Prop := ∀ x, a x ≠ none → b x = none
theorem hv_j_l {a b : hv} {x : Nat} {e : va_E} (h : a x = some e) : hv_j a b x = some e := by unfold hv_j; rw [h]
theorem hv_j_r {a b : hv} {x : Nat} (h : a x = none) : hv_j a b x = b x := by unfold hv_j; rw [h]
theorem hv_j_b {a b : hv} (d : hv_dis a b) {x : Nat} {e : va_E} (h : b x = some e) : hv_j a b x = some e := by
  rw [hv_j_r]
  · exact h
  · cases hx : a x with
    | none => rfl
    | some e2 => rw [d x (by rw [hx]; exact fun z => nomatch z)] at h; cases h
theorem hv_j_up {a b : hv} (d : hv_dis a b) {x : Nat} {e e0 : va_E} (h : b x = some e0) : hv_up (hv_j a b) x e = hv_j a (hv_up b x e) := by
  have ha : a x = none := by
    cases hx : a x with
    | none => rfl
    | some e2 => rw [d x (by rw [hx]; exact fun z => nomatch z)] at h; cases h
  funext y
  by_cases c : y = x
  · subst c
    rw [hv_up_eq, hv_j_r ha, hv_up_eq]
  · rw [hv_up_ne c]
    unfold hv_j
    rw [hv_up_ne c]
theorem hv_dis_up {a b : hv} (d : hv_dis a b) {x : Nat} {e e0 : va_E} (h : b x = some e0) : hv_dis a (hv_up b x e) := fun y hy => by
  rw [hv_up_ne (fun z => ?_)]
  · exact d y hy
  · rw [z] at hy
    rw [d x hy] at h
    cases h
theorem hv_dis_symm {a b : hv} (d : hv_dis a b) : hv_dis b a := fun x hx => by
  cases h : a x with
  | none => rfl
  | some e => exact absurd (d x (by rw [h]; exact fun z => nomatch z)) hx
theorem hv_j_comm {a b : hv} (d : hv_dis a b) : hv_j a b = hv_j b a := by
  funext x
  cases ha : a x with
  | some e => rw [hv_j_l ha, hv_j_r (d x (by rw [ha]; exact fun z => nomatch z)), ha]
  | none =>
    rw [hv_j_r ha]
    cases hb : b x with
    | some e => rw [hv_j_l hb]
    | none => rw [hv_j_r hb, ha]
section FR
variable {p : Program} {l : Launch} {e : Env} {R : Room} {s : State} {m : MethodId} {args : Array Value} {below : List Frame} {meth : Method} {c : Code} {H : Heap} {locs : List Loc} {cells slots : Nat} {Q : State → Prop}
variable {cc : ByteArray} {pc : Nat} {ls : Array Slot} {st0 rest : List Value} {G : hv_G} {h0 hX hO : hv} {own : String} {nL : Nat} {Ts : List Cond} {mc ms : Nat} {aa : Array Value}
theorem hv_I.left (I : hv_I G h0 s (hv_j hX hO) H locs) : hv_I G h0 s hX H locs :=
  ⟨fun a e ha => I.1 a e (hv_j_l ha), fun a ha => I.2.1 a (by
    cases hx : hX a with
    | none => exact absurd hx ha
    | some e => rw [hv_j_l hx]; exact fun z => nomatch z), I.2.2⟩
/-- after a call on hX: its new view beside hO -/
theorem hv_I.rejoin (I : hv_I G h0 s (hv_j hX hO) H locs) (d : hv_dis hX hO) {u : hv} {H1 : Heap} {locs1 : List Loc} (J : hv_I G h0 s u H1 locs1) (hu : ∀ a, u a ≠ none → hv_A hX H.size a) (hk : ∀ q : Nat, q < H.size → ¬ hv_A hX H.size q → H1[q]? = H[q]?) : hv_dis u hO ∧ hv_I G h0 s (hv_j u hO) H1 locs1 := by
  have lt : ∀ a e, hO a = some e → a < H.size ∧ ¬ hv_A hX H.size a := fun a e ha => by
    have h1 := hv_lt I.1 (hv_j_b d ha)
    refine ⟨h1, fun z => z.elim (fun y => ?_) (fun y => by omega)⟩
    rw [d a y] at ha
    cases ha
  have du : hv_dis u hO := fun a ha => by
    cases hx : hO a with
    | none => rfl
    | some e => exact absurd (hu a ha) (lt a e hx).2
  refine ⟨du, fun a e ha => ?_, fun a ha => ?_, J.2.2⟩
  · cases hx : u a with
    | some e2 =>
      rw [hv_j_l hx] at ha
      exact J.1 a e (by rw [hx]; exact ha)
    | none =>
      rw [hv_j_r hx] at ha
      obtain ⟨l1, l2⟩ := lt a e ha
      exact (I.1 a e (hv_j_b d ha)).kept (hk a l1 l2)
  · cases hx : u a with
    | some e2 => exact J.2.1 a (by rw [hx]; exact fun z => nomatch z)
    | none =>
      rw [hv_j_r hx] at ha
      cases hy : hO a with
      | none => exact absurd hy ha
      | some e => exact I.2.1 a (by rw [hv_j_b d hy]; exact fun z => nomatch z)
theorem hv_fki (I : hv_I G h0 s (hv_j hX hO) H locs) (d : hv_dis hX hO) {post : Int32 → hv → Prop} (hr : va_Run p l e R s m args below meth c H locs cells slots mc ms (F0 m pc ls st0) rest (va_Qi post (hv_Bq G hX H.size) (hv_A hX H.size) aa) (hv_A hX H.size))
    (kk : ∀ (r : Int32) (u : hv) (H1 : Heap) (locs1 : List Loc), post r u → hv_dis u hO → hv_I G h0 s (hv_j u hO) H1 locs1 → W p l e R s m args below meth c H1 locs1 (cells + mc) (slots + ms) Q (F0 m (pc + 3) ls (.int r :: rest))) : W p l e R s m args below meth c H locs cells slots Q (F0 m pc ls st0) :=
  va_calli hr I.2.2 (fun q _ hq => hv_sub I.left q hq) (hv_sub I.left) (fun r u t H1 locs1 ht _ hp hB _ hk hS => by
    obtain ⟨d1, J⟩ := I.rejoin d ⟨ht ▸ hB.1, fun a ha => hv_sub I.left a (hB.2 a ha), hS⟩ hB.2 hk
    exact kk r u H1 locs1 hp d1 J)
theorem hv_fkl (I : hv_I G h0 s (hv_j hX hO) H locs) (d : hv_dis hX hO) {post : Int64 → hv → Prop} (hr : va_Run p l e R s m args below meth c H locs cells slots mc ms (F0 m pc ls st0) rest (va_Ql post (hv_Bq G hX H.size) (hv_A hX H.size) aa) (hv_A hX H.size))
    (kk : ∀ (r : Int64) (u : hv) (H1 : Heap) (locs1 : List Loc), post r u → hv_dis u hO → hv_I G h0 s (hv_j u hO) H1 locs1 → W p l e R s m args below meth c H1 locs1 (cells + mc) (slots + ms) Q (F0 m (pc + 3) ls (.long r :: rest))) : W p l e R s m args below meth c H locs cells slots Q (F0 m pc ls st0) :=
  va_calll hr I.2.2 (fun q _ hq => hv_sub I.left q hq) (hv_sub I.left) (fun r u t H1 locs1 ht _ hp hB _ hk hS => by
    obtain ⟨d1, J⟩ := I.rejoin d ⟨ht ▸ hB.1, fun a ha => hv_sub I.left a (hB.2 a ha), hS⟩ hB.2 hk
    exact kk r u H1 locs1 hp d1 J)
theorem hv_fkv (I : hv_I G h0 s (hv_j hX hO) H locs) (d : hv_dis hX hO) {post : hv → Prop} (hr : va_Run p l e R s m args below meth c H locs cells slots mc ms (F0 m pc ls st0) rest (va_Qv post (hv_Bq G hX H.size) (hv_A hX H.size) aa) (hv_A hX H.size))
    (kk : ∀ (u : hv) (H1 : Heap) (locs1 : List Loc), post u → hv_dis u hO → hv_I G h0 s (hv_j u hO) H1 locs1 → W p l e R s m args below meth c H1 locs1 (cells + mc) (slots + ms) Q (F0 m (pc + 3) ls rest)) : W p l e R s m args below meth c H locs cells slots Q (F0 m pc ls st0) :=
  va_callv hr I.2.2 (fun q _ hq => hv_sub I.left q hq) (hv_sub I.left) (fun u t H1 locs1 ht _ hp hB _ hk hS => by
    obtain ⟨d1, J⟩ := I.rejoin d ⟨ht ▸ hB.1, fun a ha => hv_sub I.left a (hB.2 a ha), hS⟩ hB.2 hk
    exact kk u H1 locs1 hp d1 J)
theorem hv_fxki (I : hv_I G h0 s (hv_j hX hO) H locs) (d : hv_dis hX hO) {post : Int32 → hv → Prop} {px : String → hv → Prop} (hr : vx_Run p l e R s m args below meth c H locs cells slots mc ms (F0 m pc ls st0) rest (va_Qi post (hv_Bq G hX H.size) (hv_A hX H.size) aa) (hv_X G hX H.size px) (hv_A hX H.size))
    (kx : ∀ (E : String) (ce : Cell) (q9 : Addr) (u : hv) (H1 : Heap) (locs1 : List Loc), px E u → hv_dis u hO → hv_I G h0 s (hv_j u hO) H1 locs1 → H1[q9]? = some ce → ce.vm = .none → s.vm.findClass E = some ce.cls → vx_W p l e R s m args below meth c H1 locs1 (cells + mc) (slots + ms) Q (F0 m pc ls rest) q9)
    (kk : ∀ (r : Int32) (u : hv) (H1 : Heap) (locs1 : List Loc), post r u → hv_dis u hO → hv_I G h0 s (hv_j u hO) H1 locs1 → W p l e R s m args below meth c H1 locs1 (cells + mc) (slots + ms) Q (F0 m (pc + 3) ls (.int r :: rest))) : W p l e R s m args below meth c H locs cells slots Q (F0 m pc ls st0) :=
  vx_calli hr I.2.2 (fun q _ hq => hv_sub I.left q hq) (hv_sub I.left) (fun q _ hq => hv_sub I.left q hq)
    (fun E ce q9 u t H1 locs1 ht _ _ hB _ hk hS h1 h2 h3 => by
      obtain ⟨d1, J⟩ := I.rejoin d ⟨ht ▸ hB.2.1, fun a ha => hv_sub I.left a (hB.2.2 a ha), hS⟩ hB.2.2 hk
      exact kx E ce q9 u H1 locs1 hB.1 d1 J h1 h2 h3)
    (fun r u t H1 locs1 ht _ hp hB _ hk hS => by
      obtain ⟨d1, J⟩ := I.rejoin d ⟨ht ▸ hB.1, fun a ha => hv_sub I.left a (hB.2 a ha), hS⟩ hB.2 hk
      exact kk r u H1 locs1 hp d1 J)
end FR
