/-! rows for the class's constructor: objects and arrays of objects made, constructors called -/
section Rows
variable {p : Program} {l : Launch} {e : Env} {R : Room} {s : State} {m : MethodId} {args : Array Value} {below : List Frame} {meth : Method} {c : Code} {H : Heap} {locs : List Loc} {cells slots : Nat} {Q : State → Prop}
variable {D : va_G} {τ : Nat → ClassId} {y y0 : MethodName} {b cc : ByteArray} {nL maxL index : Nat} {ret : Option FieldType} {A : Nat → Prop} {H0 : Heap} {pc : Nat} {ls : Array Slot} {rest : List Value} {ws ws2 : va_W} {a : Nat}
theorem in_newO {C own : String} {T : u_T} {N ci : Nat} {ty : Nat → FieldType} (X : lk_X p s m args meth c y cc nL ret D τ) (hy : y.cls = own) (h : lk_H D lk_cl A H0 ws H locs) (hA : ∀ q, H0.size ≤ q → A q) (hgl : ∀ w ∈ u_ws C T N, w ∈ lk_G) (hty : ∀ k, k < N → parseFieldDescriptor (T k).2.2.1 = some (ty k)) (hg : Cond.classLink own index C ∈ lk_G ∧ Cond.instantiable C N ∈ lk_G ∧ Cond.initialized C ∈ lk_G) (hcl : lk_cl[ci]? = some (C, T, N)) {fs : List Value} (hfs : ∀ j, j < N → defaultValue (ty j) = vp_V fs j) (hc : cells + 1 ≤ R.cells) (hs : slots + N ≤ R.slots) (hdg : decode cc pc = .ok (.new index, 3))
    (kk : ∀ (q : Nat) (H1 : Heap), lk_H D lk_cl A H0 (ws ++ [(q, .inr (ci, fs))]) H1 locs → W p l e R s m args below meth c H1 locs (cells + 1) (slots + N) Q (F0 m (pc + 3) ls (.ref q :: rest))) : W p l e R s m args below meth c H locs cells slots Q (F0 m pc ls rest) := by
  obtain ⟨hx, hb, -, -, hts, hown, -, hK⟩ := X
  rw [hy] at hown
  exact va_new (ci := ci) (fs := fs) (C := C) (T := T) (N := N) hx hb hts hgl ty hty hown (hts _ hg.1) (hts _ hg.2.1) (hts _ hg.2.2) hK h.P h.D h.S hA hcl hfs hc hs hdg (fun q H1 hP hD hS => kk q H1 ⟨hP, hD, hS⟩)
theorem in_newQ {C own : String} {t0 : Nat} (X : lk_X p s m args meth c y cc nL ret D τ) (hy : y.cls = own) (h : lk_H D lk_cl A H0 ws H locs) (hA : ∀ q, H0.size ≤ q → A q) (hg : Cond.classLink own index C ∈ lk_G) (hov : va_AO C s) (ht : (lk_tys τ)[t0]? = some (τ t0, .object C)) {N : Nat} (hN : N ≤ 999) (hc : cells + 1 ≤ R.cells) (hs : slots + N ≤ R.slots) (hdg : decode cc pc = .ok (.anewarray index, 3))
    (kk : ∀ (q : Nat) (H1 : Heap), lk_H D lk_cl A H0 (ws ++ [(q, .inl (τ t0, N, .inr (.inr (.inr (.inr (fun _ => none))))))]) H1 locs → W p l e R s m args below meth c H1 locs (cells + 1) (slots + N) Q (F0 m (pc + 3) ls (.ref q :: rest))) : W p l e R s m args below meth c H locs cells slots Q (F0 m pc ls (.int (nI N) :: rest)) := by
  obtain ⟨hx, hb, -, -, hts, hown, -, hK⟩ := X
  rw [hy] at hown
  refine va_newq (n := nI N) (N' := N) (C := C) hx hb hown (hts _ hg) hov hK h.P h.D h.S hA (nI_pos (by omega)) (lk_nI_nat (by omega)) (by omega) hc hs hdg (fun q cA H1 hK2 hP hD hS => ?_)
  have e0 : cA = τ t0 := Option.some.inj ((va_nmO ((hK2.2 5 (cA, .object C) rfl).2) rfl).symm.trans (va_nmO ((hK.2 t0 (τ t0, .object C) ht).2) rfl))
  subst e0
  exact kk q H1 ⟨hP, hD, hS⟩
theorem in_A (h : lk_H D lk_cl A H0 ws H locs) (hA : ∀ q, H0.size ≤ q → A q) : ∀ q, va_A ws H.size q → A q := fun q z => z.elim (fun ⟨k, e, hk⟩ => h.D.2 k _ hk) (fun z => hA q (Nat.le_trans h.S.1 z))
theorem in_pre {av : List Value} (hK : va_K D lk_cl (lk_tys τ) s) (h : lk_H D lk_cl A H0 ws H locs) : ∀ U : State, U.heap = H → s.WarmedH U.vm → va_Pc av (lk_Pre D τ ws H.size) av.toArray U :=
  fun U hU hW => ⟨rfl, by rw [hU], by rw [hU]; exact h.P, va_K.moved hW.alike hK, h.D.weaken (fun _ _ _ _ => trivial)⟩
theorem in_ctor {own : String} {lo mc ms q na : Nat} {av : List Value} {e0 : va_E} {S : Nat × Nat → va_W} (X : lk_X p s m args meth c y0 cc nL ret D τ) (hy : y0.cls = own) (h : lk_H D lk_cl A H0 (ws ++ [(q, e0)]) H locs) (hA : ∀ q, H0.size ≤ q → A q) (hM : lk_Cn l D τ y b maxL lo mc ms q av ws e0 S) (hg : Cond.code y b maxL none ∈ lk_G ∧ Cond.methodLink own index y ∈ lk_G ∧ Cond.initialized y.cls ∈ lk_G ∧ Cond.instanceMethod y ∈ lk_G) (hyn : y.name = "<init>") (hd : y.cls ≠ "java/lang/invoke/MethodHandle" ∧ y.cls ≠ "java/lang/invoke/VarHandle" ∧ (parseMethodDescriptor y.desc).map (fun d => d.parameters.length) = some na) (hR : 1 + 1 ≤ R.frames ∧ 8 + (maxL + 11) + lo ≤ R.locals) (hn : av.length = na) (hsz : ls.size = nL) (hW : (rest.map fun v => v.category).sum ≤ 8) (hdg : decode cc pc = .ok (.invokespecial index, 3)) (hc : cells + mc ≤ R.cells) (hs : slots + ms ≤ R.slots)
    (kk : ∀ (u : Nat × Nat) (H1 : Heap) (locs1 : List Loc), lk_H D lk_cl A H0 (S u) H1 locs1 → W p l e R s m args below meth c H1 locs1 (cells + mc) (slots + ms) Q (F0 m (pc + 3) ls rest)) : W p l e R s m args below meth c H locs cells slots Q (F0 m pc ls (av.reverse ++ .ref q :: rest)) := by
  obtain ⟨hx, hb, hml, -, hts, hown, -, hK⟩ := X
  rw [hy] at hown
  refine va_callv (va_runI (As := av) (rest := rest) ⟨hx, hb, hml, hown, hts⟩ (hM H.size) (cwI na hts (lk_gin (fun _ h => h) hg.1) rfl rfl rfl (hts _ hg.2.2.1) (hts _ hg.2.1) (hts _ hg.2.2.2) hyn hd hR) ⟨lk_blind, in_pre (av := .ref q :: av) hK h⟩ rfl hn hsz rfl (lv_room (rest := av.reverse ++ .ref q :: rest) hW) hdg ⟨hc, hs⟩) h.S (fun x _ hx => in_A h hA x hx) (in_A h hA) (fun u t H1 locs1 ht _ _ hB _ _ hS => ?_)
  exact kk u H1 locs1 ⟨by rw [← ht]; exact hB.1, hB.2.1.weaken (fun _ q _ z => in_A h hA q.1 z), hS⟩
theorem in_ctorN {own host : String} {lo mc ms q na : Nat} {av : List Value} {e0 : va_E} {S : Nat × Nat → va_W} (X : lk_X p s m args meth c y0 cc nL ret D τ) (hy : y0.cls = own) (h : lk_H D lk_cl A H0 (ws ++ [(q, e0)]) H locs) (hA : ∀ q, H0.size ≤ q → A q) (hM : lk_Cn l D τ y b maxL lo mc ms q av ws e0 S) (hnl : va_Nw (.methodLinkNest own index y host) s) (hg : Cond.code y b maxL none ∈ lk_G ∧ Cond.initialized y.cls ∈ lk_G ∧ Cond.instanceMethod y ∈ lk_G) (hyn : y.name = "<init>") (hd : y.cls ≠ "java/lang/invoke/MethodHandle" ∧ y.cls ≠ "java/lang/invoke/VarHandle" ∧ (parseMethodDescriptor y.desc).map (fun d => d.parameters.length) = some na) (hR : 1 + 1 ≤ R.frames ∧ 8 + (maxL + 11) + lo ≤ R.locals) (hn : av.length = na) (hsz : ls.size = nL) (hW : (rest.map fun v => v.category).sum ≤ 8) (hdg : decode cc pc = .ok (.invokespecial index, 3)) (hc : cells + mc ≤ R.cells) (hs : slots + ms ≤ R.slots)
    (kk : ∀ (u : Nat × Nat) (H1 : Heap) (locs1 : List Loc), lk_H D lk_cl A H0 (S u) H1 locs1 → W p l e R s m args below meth c H1 locs1 (cells + mc) (slots + ms) Q (F0 m (pc + 3) ls rest)) : W p l e R s m args below meth c H locs cells slots Q (F0 m pc ls (av.reverse ++ .ref q :: rest)) := by
  obtain ⟨hx, hb, hml, -, hts, hown, -, hK⟩ := X
  rw [hy] at hown
  refine va_callv (va_runIN (As := av) (rest := rest) ⟨hx, hb, hml, hown, hts⟩ (hM H.size) ⟨va_cnB na hts (lk_gin (fun _ h => h) hg.1) rfl rfl rfl hnl (hts _ hg.2.1) hd hR, hyn, hts _ hg.2.2⟩ ⟨lk_blind, in_pre (av := .ref q :: av) hK h⟩ rfl hn hsz rfl (lv_room (rest := av.reverse ++ .ref q :: rest) hW) hdg ⟨hc, hs⟩) h.S (fun x _ hx => in_A h hA x hx) (in_A h hA) (fun u t H1 locs1 ht _ _ hB _ _ hS => ?_)
  exact kk u H1 locs1 ⟨by rw [← ht]; exact hB.1, hB.2.1.weaken (fun _ q _ z => in_A h hA q.1 z), hS⟩
theorem in_get {C own : String} {T : u_T} {N ci : Nat} (X : lk_X p s m args meth c y cc nL ret D τ) (hy : y.cls = own) (h : lk_H D lk_cl A H0 ws H locs) (q0 : Nat) {fs : List Value} (he : ws[q0]? = some (a, .inr (ci, fs))) (hc : lk_cl[ci]? = some (C, T, N)) (hgl : ∀ w ∈ u_ws C T N, w ∈ lk_G) (k : Nat) (hk : k < N) (hg : Cond.fieldLink own index C (T k).2.1 (T k).2.2.1 ∈ lk_G) (hd : (T k).1 = C) {v : Value} (hv : fs[k]? = some v) (hdg : decode cc pc = .ok (.getfield index, 3))
    (kk : W p l e R s m args below meth c H locs cells slots Q (F0 m (pc + 3) ls (v :: rest))) : W p l e R s m args below meth c H locs cells slots Q (F0 m pc ls (.ref a :: rest)) := by
  obtain ⟨hx, hb, -, -, hts, hown, -, hK⟩ := X
  rw [hy] at hown
  exact va_get hx hb hts hgl hown hK h.P q0 he hc k hk (hts _ hg) (fun x9 h9 => by rw [hd] at h9; exact h9) hv hdg kk
theorem in_astq {t0 qk ci : Nat} {C : String} {T : u_T} {N n v i : Nat} {vs : List Value} {f : Nat → Option Nat} (X : lk_X p s m args meth c y cc nL ret D τ) (h : lk_H D lk_cl A H0 ws H locs) (q0 : Nat) (ha : ws[q0]? = some (a, .inl (τ t0, n, .inr (.inr (.inr (.inr f)))))) (ht : (lk_tys τ)[t0]? = some (τ t0, .object C)) (hv : ws[qk]? = some (v, .inr (ci, vs))) (hc : lk_cl[ci]? = some (C, T, N)) (hi : i < n) (hn : n < 1000) (hw : ws.set q0 (a, .inl (τ t0, n, .inr (.inr (.inr (.inr (va_up f i (some v))))))) = ws2) (hdg : decode cc pc = .ok (.aastore, 1))
    (kk : ∀ (H1 : Heap) (locs1 : List Loc), lk_H D lk_cl A H0 ws2 H1 locs1 → W p l e R s m args below meth c H1 locs1 cells slots Q (F0 m (pc + 1) ls rest)) : W p l e R s m args below meth c H locs cells slots Q (F0 m pc ls (.ref v :: .int (nI i) :: .ref a :: rest)) := by
  obtain ⟨hx, hb, -, -, hts, hown, -, hK⟩ := X
  have e1 : (nI i).toNatClampNeg = i := lk_nI_nat (by omega)
  refine va_astq (r := (C, T, N)) hx hb hK h.P h.D h.S q0 t0 qk ci ha ht hv hc (i := nI i) ?_ hdg (fun H1 locs1 hP hD hS => ?_)
  · intro z
    rcases z with z | z
    · exact nI_pos (by omega) z
    · rw [e1] at z; omega
  · rw [e1, hw] at hP hD
    exact kk H1 locs1 ⟨hP, hD, hS⟩
end Rows
/-- the nodes made so far, with their arrays; the tasks made so far -/
def lk_nl (τ : Nat → ClassId) (n k s : Nat → Nat) : Nat → va_W
  | 0 => []
  | i + 1 => (lk_nl τ n k s i ++ [(n i, .inr (1, lk_nd1 (lk_num i) (k i) (s i)))]) ++ [(k i, lk_ar τ 5), (s i, lk_ar τ 5)]
def lk_tl (τ : Nat → ClassId) (t k : Nat → Nat) : Nat → va_W
  | 0 => []
  | i + 1 => (lk_tl τ t k i ++ [(t i, .inr (2, lk_ta1 (nI i) (k i)))]) ++ [(k i, lk_ar τ 25)]
theorem lk_nl_len (τ : Nat → ClassId) (n k s : Nat → Nat) : ∀ i, (lk_nl τ n k s i).length = 3 * i := by
  intro i
  induction i with
  | zero => rfl
  | succ i ih =>
    show ((lk_nl τ n k s i ++ _) ++ _).length = _
    rw [List.length_append, List.length_append, ih]
    show 3 * i + 1 + 2 = 3 * (i + 1)
    omega
theorem lk_tl_len (τ : Nat → ClassId) (t k : Nat → Nat) : ∀ i, (lk_tl τ t k i).length = 2 * i := by
  intro i
  induction i with
  | zero => rfl
  | succ i ih =>
    show ((lk_tl τ t k i ++ _) ++ _).length = _
    rw [List.length_append, List.length_append, ih]
    show 2 * i + 1 + 1 = 2 * (i + 1)
    omega
theorem lk_nl_congr {τ : Nat → ClassId} {n k s n' k' s' : Nat → Nat} : ∀ i, (∀ j, j < i → n j = n' j ∧ k j = k' j ∧ s j = s' j) → lk_nl τ n k s i = lk_nl τ n' k' s' i := by
  intro i
  induction i with
  | zero => intro _; rfl
  | succ i ih =>
    intro h
    obtain ⟨e1, e2, e3⟩ := h i (by omega)
    unfold lk_nl
    rw [ih (fun j hj => h j (by omega)), e1, e2, e3]
theorem lk_tl_congr {τ : Nat → ClassId} {t k t' k' : Nat → Nat} : ∀ i, (∀ j, j < i → t j = t' j ∧ k j = k' j) → lk_tl τ t k i = lk_tl τ t' k' i := by
  intro i
  induction i with
  | zero => intro _; rfl
  | succ i ih =>
    intro h
    obtain ⟨e1, e2⟩ := h i (by omega)
    unfold lk_tl
    rw [ih (fun j hj => h j (by omega)), e1, e2]
theorem lk_nl_get {τ : Nat → ClassId} {n k s : Nat → Nat} {p : Nat} : ∀ i, p < i → (lk_nl τ n k s i)[3 * p]? = some (n p, .inr (1, lk_nd1 (lk_num p) (k p) (s p))) ∧ (lk_nl τ n k s i)[3 * p + 1]? = some (k p, lk_ar τ 5) ∧ (lk_nl τ n k s i)[3 * p + 2]? = some (s p, lk_ar τ 5) := by
  intro i
  induction i with
  | zero => intro h; omega
  | succ i ih =>
    intro h
    have hl := lk_nl_len τ n k s i
    by_cases e : p = i
    · subst e
      unfold lk_nl
      refine ⟨?_, ?_, ?_⟩
      · rw [List.getElem?_append_left (by rw [List.length_append, hl]; show 3 * p < 3 * p + 1; omega), List.getElem?_append_right (by omega), hl, Nat.sub_self]; rfl
      · rw [List.getElem?_append_right (by rw [List.length_append, hl]; show 3 * p + 1 ≤ 3 * p + 1; omega), List.length_append, hl, show 3 * p + 1 - (3 * p + [(n p, (Sum.inr (1, lk_nd1 (lk_num p) (k p) (s p)) : va_E))].length) = 0 by show 3 * p + 1 - (3 * p + 1) = 0; omega]; rfl
      · rw [List.getElem?_append_right (by rw [List.length_append, hl]; show 3 * p + 1 ≤ 3 * p + 2; omega), List.length_append, hl, show 3 * p + 2 - (3 * p + [(n p, (Sum.inr (1, lk_nd1 (lk_num p) (k p) (s p)) : va_E))].length) = 1 by show 3 * p + 2 - (3 * p + 1) = 1; omega]; rfl
    · obtain ⟨i1, i2, i3⟩ := ih (by omega)
      unfold lk_nl
      refine ⟨?_, ?_, ?_⟩
      · rw [List.append_assoc, List.getElem?_append_left (by omega)]; exact i1
      · rw [List.append_assoc, List.getElem?_append_left (by omega)]; exact i2
      · rw [List.append_assoc, List.getElem?_append_left (by omega)]; exact i3
theorem lk_tl_get {τ : Nat → ClassId} {t k : Nat → Nat} {p : Nat} : ∀ i, p < i → (lk_tl τ t k i)[2 * p]? = some (t p, .inr (2, lk_ta1 (nI p) (k p))) ∧ (lk_tl τ t k i)[2 * p + 1]? = some (k p, lk_ar τ 25) := by
  intro i
  induction i with
  | zero => intro h; omega
  | succ i ih =>
    intro h
    have hl := lk_tl_len τ t k i
    by_cases e : p = i
    · subst e
      unfold lk_tl
      refine ⟨?_, ?_⟩
      · rw [List.getElem?_append_left (by rw [List.length_append, hl]; show 2 * p < 2 * p + 1; omega), List.getElem?_append_right (by omega), hl, Nat.sub_self]; rfl
      · rw [List.getElem?_append_right (by rw [List.length_append, hl]; show 2 * p + 1 ≤ 2 * p + 1; omega), List.length_append, hl, show 2 * p + 1 - (2 * p + [(t p, (Sum.inr (2, lk_ta1 (nI p) (k p)) : va_E))].length) = 0 by show 2 * p + 1 - (2 * p + 1) = 0; omega]; rfl
    · obtain ⟨i1, i2⟩ := ih (by omega)
      unfold lk_tl
      refine ⟨?_, ?_⟩
      · rw [List.append_assoc, List.getElem?_append_left (by omega)]; exact i1
      · rw [List.append_assoc, List.getElem?_append_left (by omega)]; exact i2
