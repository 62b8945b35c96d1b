/-! ===== two views side by side: a call sees one of them, the other stays ===== -/
def hv_j (a b : hv) : hv := fun x => match a x with | some e => some e | none => b x
def hv_dis (a b : hv) : Prop := ∀ x, a x ≠ none → b x = none
theorem hv_j_l {a b : hv} {x : Nat} {e : va_E} (h : a x = some e) : hv_j a b x = some e := by unfold hv_j; rw [h]
theorem hv_j_r {a b : hv} {x : Nat} (h : a x = none) : hv_j a b x = b x := by unfold hv_j; rw [h]
theorem hv_j_b {a b : hv} (d : hv_dis a b) {x : Nat} {e : va_E} (h : b x = some e) : hv_j a b x = some e := by
  rw [hv_j_r]
  · exact h
  · cases hx : a x with
    | none => rfl
    | some e2 => rw [d x (by rw [hx]; exact fun z => nomatch z)] at h; cases h
theorem hv_j_up {a b : hv} (d : hv_dis a b) {x : Nat} {e e0 : va_E} (h : b x = some e0) : hv_up (hv_j a b) x e = hv_j a (hv_up b x e) := by
  have ha : a x = none := by
    cases hx : a x with
    | none => rfl
    | some e2 => rw [d x (by rw [hx]; exact fun z => nomatch z)] at h; cases h
  funext y
  by_cases c : y = x
  · subst c
    rw [hv_up_eq, hv_j_r ha, hv_up_eq]
  · rw [hv_up_ne c]
    unfold hv_j
    rw [hv_up_ne c]
theorem hv_dis_up {a b : hv} (d : hv_dis a b) {x : Nat} {e e0 : va_E} (h : b x = some e0) : hv_dis a (hv_up b x e) := fun y hy => by
  rw [hv_up_ne (fun z => ?_)]
  · exact d y hy
  · rw [z] at hy
    rw [d x hy] at h
    cases h
theorem hv_dis_symm {a b : hv} (d : hv_dis a b) : hv_dis b a := fun x hx => by
  cases h : a x with
  | none => rfl
  | some e => exact absurd (d x (by rw [h]; exact fun z => nomatch z)) hx
theorem hv_j_comm {a b : hv} (d : hv_dis a b) : hv_j a b = hv_j b a := by
  funext x
  cases ha : a x with
  | some e => rw [hv_j_l ha, hv_j_r (d x (by rw [ha]; exact fun z => nomatch z)), ha]
  | none =>
    rw [hv_j_r ha]
    cases hb : b x with
    | some e => rw [hv_j_l hb]
    | none => rw [hv_j_r hb, ha]
/-! ===== views within a view: a call changes one of them ===== -/
def hv_le (a J : hv) : Prop := ∀ x e, a x = some e → J x = some e
def hv_w (J a u : hv) : hv := fun x => match u x with
  | some e => some e
  | none => match a x with
    | some _ => none
    | none => J x
theorem hv_w_u {J a u : hv} {x : Nat} {e : va_E} (h : u x = some e) : hv_w J a u x = some e := by unfold hv_w; rw [h]
theorem hv_w_a {J a u : hv} {x : Nat} {e : va_E} (h : u x = none) (h2 : a x = some e) : hv_w J a u x = none := by unfold hv_w; rw [h, h2]
theorem hv_w_j {J a u : hv} {x : Nat} (h : u x = none) (h2 : a x = none) : hv_w J a u x = J x := by unfold hv_w; rw [h, h2]
theorem hv_nn {a : hv} {x : Nat} {e : va_E} (h : a x = some e) : a x ≠ none := by rw [h]; exact fun z => nomatch z
section SUB
variable {p : Program} {l : Launch} {e : Env} {R : Room} {s : State} {m : MethodId} {args : Array Value} {below : List Frame} {meth : Method} {c : Code} {H : Heap} {locs : List Loc} {cells slots : Nat} {Q : State → Prop}
variable {cc : ByteArray} {pc : Nat} {ls : Array Slot} {st0 rest : List Value} {G : hv_G} {h0 J a : hv} {own : String} {nL : Nat} {Ts : List Cond} {mc ms : Nat} {aa : Array Value}
theorem hv_I.sub (I : hv_I G h0 s J H locs) (h : hv_le a J) : hv_I G h0 s a H locs :=
  ⟨fun x e hx => I.1 x e (h x e hx), fun x hx => I.2.1 x (by
    cases ha : a x with
    | none => exact absurd ha hx
    | some e => exact hv_nn (h x e ha)), I.2.2⟩
/-- what stands after a call on a: its new view u, and every other view as it was -/
def hv_fr (J a u J2 : hv) : Prop := hv_le u J2 ∧ ∀ b, hv_le b J → hv_dis a b → hv_le b J2 ∧ hv_dis u b
theorem hv_I.after (I : hv_I G h0 s J H locs) (h : hv_le a J) {u : hv} {H1 : Heap} {locs1 : List Loc} (K : hv_I G h0 s u H1 locs1) (hu : ∀ x, u x ≠ none → hv_A a H.size x) (hk : ∀ q : Nat, q < H.size → ¬ hv_A a H.size q → H1[q]? = H[q]?) : hv_fr J a u (hv_w J a u) ∧ hv_I G h0 s (hv_w J a u) H1 locs1 := by
  have out : ∀ x e, J x = some e → a x = none → u x = none ∧ ¬ hv_A a H.size x ∧ x < H.size := fun x e hx ha => by
    have h1 := hv_lt I.1 hx
    have h2 : ¬ hv_A a H.size x := fun z => z.elim (fun y => y ha) (fun y => by omega)
    refine ⟨?_, h2, h1⟩
    cases hy : u x with
    | none => rfl
    | some e2 => exact absurd (hu x (hv_nn hy)) h2
  refine ⟨⟨fun x e hx => hv_w_u hx, fun b hb hd => ⟨fun x e hx => ?_, fun x hx => ?_⟩⟩, fun x e hx => ?_, fun x hx => ?_, K.2.2⟩
  · have ha : a x = none := by
      cases hy : a x with
      | none => rfl
      | some e2 => rw [hd x (hv_nn hy)] at hx; cases hx
    rw [hv_w_j (out x e (hb x e hx) ha).1 ha]
    exact hb x e hx
  · cases hy : b x with
    | none => rfl
    | some e =>
      have ha : a x = none := by
        cases hz : a x with
        | none => rfl
        | some e2 => rw [hd x (hv_nn hz)] at hy; cases hy
      exact absurd (out x e (hb x e hy) ha).1 hx
  · cases hy : u x with
    | some e2 =>
      rw [hv_w_u hy] at hx
      exact K.1 x e (by rw [hy]; exact hx)
    | none =>
      cases ha : a x with
      | some e2 => rw [hv_w_a hy ha] at hx; cases hx
      | none =>
        rw [hv_w_j hy ha] at hx
        obtain ⟨_, o2, o3⟩ := out x e hx ha
        exact (I.1 x e hx).kept (hk x o3 o2)
  · cases hy : u x with
    | some e2 => exact K.2.1 x (hv_nn hy)
    | none =>
      cases ha : a x with
      | some e2 => rw [hv_w_a hy ha] at hx; exact absurd rfl hx
      | none =>
        rw [hv_w_j hy ha] at hx
        exact I.2.1 x hx
theorem hv_ski (I : hv_I G h0 s J H locs) (h : hv_le a J) {post : Int32 → hv → Prop} (hr : va_Run p l e R s m args below meth c H locs cells slots mc ms (F0 m pc ls st0) rest (va_Qi post (hv_Bq G a H.size) (hv_A a H.size) aa) (hv_A a H.size))
    (kk : ∀ (r : Int32) (u J2 : hv) (H1 : Heap) (locs1 : List Loc), post r u → hv_fr J a u J2 → hv_I G h0 s J2 H1 locs1 → W p l e R s m args below meth c H1 locs1 (cells + mc) (slots + ms) Q (F0 m (pc + 3) ls (.int r :: rest))) : W p l e R s m args below meth c H locs cells slots Q (F0 m pc ls st0) :=
  va_calli hr I.2.2 (fun q _ hq => hv_sub (I.sub h) q hq) (hv_sub (I.sub h)) (fun r u t H1 locs1 ht _ hp hB _ hk hS => by
    obtain ⟨d1, K⟩ := I.after h ⟨ht ▸ hB.1, fun x hx => hv_sub (I.sub h) x (hB.2 x hx), hS⟩ hB.2 hk
    exact kk r u _ H1 locs1 hp d1 K)
theorem hv_skl (I : hv_I G h0 s J H locs) (h : hv_le a J) {post : Int64 → hv → Prop} (hr : va_Run p l e R s m args below meth c H locs cells slots mc ms (F0 m pc ls st0) rest (va_Ql post (hv_Bq G a H.size) (hv_A a H.size) aa) (hv_A a H.size))
    (kk : ∀ (r : Int64) (u J2 : hv) (H1 : Heap) (locs1 : List Loc), post r u → hv_fr J a u J2 → hv_I G h0 s J2 H1 locs1 → W p l e R s m args below meth c H1 locs1 (cells + mc) (slots + ms) Q (F0 m (pc + 3) ls (.long r :: rest))) : W p l e R s m args below meth c H locs cells slots Q (F0 m pc ls st0) :=
  va_calll hr I.2.2 (fun q _ hq => hv_sub (I.sub h) q hq) (hv_sub (I.sub h)) (fun r u t H1 locs1 ht _ hp hB _ hk hS => by
    obtain ⟨d1, K⟩ := I.after h ⟨ht ▸ hB.1, fun x hx => hv_sub (I.sub h) x (hB.2 x hx), hS⟩ hB.2 hk
    exact kk r u _ H1 locs1 hp d1 K)
theorem hv_skv (I : hv_I G h0 s J H locs) (h : hv_le a J) {post : hv → Prop} (hr : va_Run p l e R s m args below meth c H locs cells slots mc ms (F0 m pc ls st0) rest (va_Qv post (hv_Bq G a H.size) (hv_A a H.size) aa) (hv_A a H.size))
    (kk : ∀ (u J2 : hv) (H1 : Heap) (locs1 : List Loc), post u → hv_fr J a u J2 → hv_I G h0 s J2 H1 locs1 → W p l e R s m args below meth c H1 locs1 (cells + mc) (slots + ms) Q (F0 m (pc + 3) ls rest)) : W p l e R s m args below meth c H locs cells slots Q (F0 m pc ls st0) :=
  va_callv hr I.2.2 (fun q _ hq => hv_sub (I.sub h) q hq) (hv_sub (I.sub h)) (fun u t H1 locs1 ht _ hp hB _ hk hS => by
    obtain ⟨d1, K⟩ := I.after h ⟨ht ▸ hB.1, fun x hx => hv_sub (I.sub h) x (hB.2 x hx), hS⟩ hB.2 hk
    exact kk u _ H1 locs1 hp d1 K)
/-- of callees that throw nothing, though their kind might -/
theorem hv_sxi (I : hv_I G h0 s J H locs) (h : hv_le a J) {post : Int32 → hv → Prop} (hr : vx_Run p l e R s m args below meth c H locs cells slots mc ms (F0 m pc ls st0) rest (va_Qi post (hv_Bq G a H.size) (hv_A a H.size) aa) (hv_X G a H.size (fun _ _ => False)) (hv_A a H.size))
    (kk : ∀ (r : Int32) (u J2 : hv) (H1 : Heap) (locs1 : List Loc), post r u → hv_fr J a u J2 → hv_I G h0 s J2 H1 locs1 → W p l e R s m args below meth c H1 locs1 (cells + mc) (slots + ms) Q (F0 m (pc + 3) ls (.int r :: rest))) : W p l e R s m args below meth c H locs cells slots Q (F0 m pc ls st0) :=
  vx_calli hr I.2.2 (fun q _ hq => hv_sub (I.sub h) q hq) (hv_sub (I.sub h)) (fun q _ hq => hv_sub (I.sub h) q hq)
    (fun E ce q9 u t H1 locs1 ht _ _ hB _ hk hS h1 h2 h3 => hB.1.elim)
    (fun r u t H1 locs1 ht _ hp hB _ hk hS => by
      obtain ⟨d1, K⟩ := I.after h ⟨ht ▸ hB.1, fun x hx => hv_sub (I.sub h) x (hB.2 x hx), hS⟩ hB.2 hk
      exact kk r u _ H1 locs1 hp d1 K)
end SUB
