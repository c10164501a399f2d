/-! constructors: worlds that grow -/
theorem lk_getm {α : Type} {ws ys : List α} {x : α} : ((ws ++ [x]) ++ ys)[ws.length]? = some x := by simp
theorem lk_setm {α : Type} {ws ys : List α} {x z : α} : ((ws ++ [x]) ++ ys).set ws.length z = (ws ++ [z]) ++ ys := by
  rw [List.append_assoc, List.set_append_right _ _ (Nat.le_refl _)]
  simp
def lk_ar (τ : Nat → ClassId) (N : Nat) : va_E := .inl (τ 0, N, .inl (fun _ => 0))
def lk_ab (τ : Nat → ClassId) (N : Nat) : va_E := .inl (τ 1, N, .inl (fun _ => 0))
section Rows
variable {p : Program} {l : Launch} {e : Env} {R : Room} {s : State} {m : MethodId} {args : Array Value} {below : List Frame} {meth : Method} {c : Code} {H : Heap} {locs : List Loc} {cells slots : Nat} {Q : State → Prop}
variable {D : va_G} {τ : Nat → ClassId} {y : MethodName} {cc : ByteArray} {nL index : Nat} {ret : Option FieldType} {A : Nat → Prop} {H0 : Heap} {pc : Nat} {ls : Array Slot} {rest : List Value} {ws ws2 : va_W} {a : Nat}
theorem in_newI (X : lk_X p s m args meth c y cc nL ret D τ) (h : lk_H D lk_cl A H0 ws H locs) (hA : ∀ q, H0.size ≤ q → A q) {N : Nat} (hN : N ≤ 999) (hc : cells + 1 ≤ R.cells) (hs : slots + N ≤ R.slots) (hdg : decode cc pc = .ok (.newarray .int, 2))
    (kk : ∀ (q : Nat) (H1 : Heap), lk_H D lk_cl A H0 (ws ++ [(q, lk_ar τ N)]) H1 locs → W p l e R s m args below meth c H1 locs (cells + 1) (slots + N) Q (F0 m (pc + 2) ls (.ref q :: rest))) : W p l e R s m args below meth c H locs cells slots Q (F0 m pc ls (.int (nI N) :: rest)) := by
  obtain ⟨hx, hb, -, -, hts, hown, -, hK⟩ := X
  refine va_newa (atype := .int) (n := nI N) hx hb (hts (.arrayClass .int) gA_int) (ty := .int) rfl hK h.P h.D h.S hA (N' := N) (a0 := (N, .inl (fun _ => 0))) (fun cA => rfl) (nI_pos (by omega)) (lk_nI_nat (by omega)) (Nat.le_trans (Nat.mul_le_mul_right _ hN) (by decide)) hc hs hdg (fun q cA H1 hK2 hP hD hS => ?_)
  have e0 : cA = τ 0 := Option.some.inj ((va_nm_int ((hK2.2 5 (cA, .int) rfl).2)).symm.trans (va_nm_int ((hK.2 0 (τ 0, .int) rfl).2)))
  subst e0
  exact kk q H1 ⟨hP, hD, hS⟩
theorem in_newZ (X : lk_X p s m args meth c y cc nL ret D τ) (h : lk_H D lk_cl A H0 ws H locs) (hA : ∀ q, H0.size ≤ q → A q) {N : Nat} (hN : N ≤ 999) (hc : cells + 1 ≤ R.cells) (hs : slots + N ≤ R.slots) (hdg : decode cc pc = .ok (.newarray .boolean, 2))
    (kk : ∀ (q : Nat) (H1 : Heap), lk_H D lk_cl A H0 (ws ++ [(q, lk_ab τ N)]) H1 locs → W p l e R s m args below meth c H1 locs (cells + 1) (slots + N) Q (F0 m (pc + 2) ls (.ref q :: rest))) : W p l e R s m args below meth c H locs cells slots Q (F0 m pc ls (.int (nI N) :: rest)) := by
  obtain ⟨hx, hb, -, -, hts, hown, -, hK⟩ := X
  refine va_newa (atype := .boolean) (n := nI N) hx hb (hts (.arrayClass .boolean) gA_boolean) (ty := .boolean) rfl hK h.P h.D h.S hA (N' := N) (a0 := (N, .inl (fun _ => 0))) (fun cA => rfl) (nI_pos (by omega)) (lk_nI_nat (by omega)) (Nat.le_trans (Nat.mul_le_mul_right _ hN) (by decide)) hc hs hdg (fun q cA H1 hK2 hP hD hS => ?_)
  have e0 : cA = τ 1 := Option.some.inj ((va_nm_boolean ((hK2.2 5 (cA, .boolean) rfl).2)).symm.trans (va_nm_boolean ((hK.2 1 (τ 1, .boolean) rfl).2)))
  subst e0
  exact kk q H1 ⟨hP, hD, hS⟩
theorem in_newJ (X : lk_X p s m args meth c y cc nL ret D τ) (h : lk_H D lk_cl A H0 ws H locs) (hA : ∀ q, H0.size ≤ q → A q) {N : Nat} (hN : N ≤ 999) (hc : cells + 1 ≤ R.cells) (hs : slots + N ≤ R.slots) (hdg : decode cc pc = .ok (.newarray .long, 2))
    (kk : ∀ (q : Nat) (H1 : Heap), lk_H D lk_cl A H0 (ws ++ [(q, .inl (τ 4, N, .inr (.inl (fun _ => 0))))]) H1 locs → W p l e R s m args below meth c H1 locs (cells + 1) (slots + N) Q (F0 m (pc + 2) ls (.ref q :: rest))) : W p l e R s m args below meth c H locs cells slots Q (F0 m pc ls (.int (nI N) :: rest)) := by
  obtain ⟨hx, hb, -, -, hts, hown, -, hK⟩ := X
  refine va_newa (atype := .long) (n := nI N) hx hb (hts (.arrayClass .long) gA_long) (ty := .long) rfl hK h.P h.D h.S hA (N' := N) (a0 := (N, .inr (.inl (fun _ => 0)))) (fun cA => rfl) (nI_pos (by omega)) (lk_nI_nat (by omega)) (Nat.le_trans (Nat.mul_le_mul_right _ hN) (by decide)) hc hs hdg (fun q cA H1 hK2 hP hD hS => ?_)
  have e0 : cA = τ 4 := Option.some.inj ((va_nm_long ((hK2.2 5 (cA, .long) rfl).2)).symm.trans (va_nm_long ((hK.2 4 (τ 4, .long) rfl).2)))
  subst e0
  exact kk q H1 ⟨hP, hD, hS⟩
theorem in_putF {C : String} {T : u_T} {N ci : Nat} {ty0 : Nat → FieldType} (X : lk_X p s m args meth c y cc nL ret D τ) (hin : meth.name = "<init>") (hy : y.cls = C) (h : lk_H D lk_cl A H0 ws H locs) (q0 : Nat) {fs : List Value} (he : ws[q0]? = some (a, .inr (ci, fs))) (hc : lk_cl[ci]? = some (C, T, N)) (hgl : ∀ w ∈ u_ws C T N, w ∈ lk_G) (hty : ∀ k, k < N → parseFieldDescriptor (T k).2.2.1 = some (ty0 k)) (hnm : ∀ a, a < N → ∀ b, b < N → a ≠ b → (T a).2.1 ≠ (T b).2.1) (k : Nat) (hk : k < N) (ty : FieldType) {v : Value} (hg : Cond.fieldLink C index C (T k).2.1 (T k).2.2.1 ∈ lk_G) (hd : (T k).1 = C ∧ (T k).2.2.2 = true ∧ parseFieldDescriptor (T k).2.2.1 = some ty) (hn : narrow ty v = v ∧ fits ty v = true) (hl : k < fs.length) (hw : ws.set q0 (a, .inr (ci, fs.set k v)) = ws2) (hdg : decode cc pc = .ok (.putfield index, 3))
    (kk : ∀ (H1 : Heap) (locs1 : List Loc), lk_H D lk_cl A H0 ws2 H1 locs1 → W p l e R s m args below meth c H1 locs1 cells slots Q (F0 m (pc + 3) ls rest)) : W p l e R s m args below meth c H locs cells slots Q (F0 m pc ls (v :: .ref a :: rest)) := by
  obtain ⟨hx, hb, -, -, hts, hown, -, hK⟩ := X
  rw [hy] at hown
  exact va_putF (D := D) (ci := ci) (v := v) (ty := ty) (C := C) (T := T) (N := N) hx hb hts hgl ty0 hty hnm hown hK h.P h.D h.S q0 he hc k hk (hts _ hg) (fun x9 h9 => by rw [hd.1] at h9; exact h9) hd.2.1 hin hd.1 hd.2.2 hn.1 hn.2 hl hdg (fun H1 locs1 hP hD hS => kk H1 locs1 ⟨by rw [← hw]; exact hP, by rw [← hw]; exact hD, hS⟩)
theorem in_put {C own : String} {T : u_T} {N ci : Nat} {ty0 : Nat → FieldType} (X : lk_X p s m args meth c y cc nL ret D τ) (hy : y.cls = own) (h : lk_H D lk_cl A H0 ws H locs) (q0 : Nat) {fs : List Value} (he : ws[q0]? = some (a, .inr (ci, fs))) (hc : lk_cl[ci]? = some (C, T, N)) (hgl : ∀ w ∈ u_ws C T N, w ∈ lk_G) (hty : ∀ k, k < N → parseFieldDescriptor (T k).2.2.1 = some (ty0 k)) (hnm : ∀ a, a < N → ∀ b, b < N → a ≠ b → (T a).2.1 ≠ (T b).2.1) (k : Nat) (hk : k < N) (ty : FieldType) {v : Value} (hg : Cond.fieldLink own index C (T k).2.1 (T k).2.2.1 ∈ lk_G) (hd : (T k).1 = C ∧ (T k).2.2.2 = false ∧ parseFieldDescriptor (T k).2.2.1 = some ty) (hn : narrow ty v = v ∧ fits ty v = true) (hl : k < fs.length) (hw : ws.set q0 (a, .inr (ci, fs.set k v)) = ws2) (hdg : decode cc pc = .ok (.putfield index, 3))
    (kk : ∀ (H1 : Heap) (locs1 : List Loc), lk_H D lk_cl A H0 ws2 H1 locs1 → W p l e R s m args below meth c H1 locs1 cells slots Q (F0 m (pc + 3) ls rest)) : W p l e R s m args below meth c H locs cells slots Q (F0 m pc ls (v :: .ref a :: rest)) := by
  obtain ⟨hx, hb, -, -, hts, hown, -, hK⟩ := X
  rw [hy] at hown
  exact va_put (D := D) (ci := ci) (v := v) (ty := ty) (C := C) (T := T) (N := N) hx hb hts hgl ty0 hty hnm hown hK h.P h.D h.S q0 he hc k hk (hts _ hg) (fun x9 h9 => by rw [hd.1] at h9; exact h9) hd.2.1 hd.2.2 hn.1 hn.2 hl hdg (fun H1 locs1 hP hD hS => kk H1 locs1 ⟨by rw [← hw]; exact hP, by rw [← hw]; exact hD, hS⟩)
theorem in_obj (X : lk_X p s m args meth c y cc nL ret D τ) {own : String} (hy : y.cls = own) (hg : Cond.methodLink own index objectInit ∈ lk_G) (hsz : ls.size = nL) (hf : 1 ≤ R.frames) (hl : 20 ≤ R.locals) (hdg : decode cc pc = .ok (.invokespecial index, 3)) (kk : W p l e R s m args below meth c H locs cells slots Q (F0 m (pc + 3) ls [])) : W p l e R s m args below meth c H locs cells slots Q (F0 m pc ls [.ref a]) := by
  obtain ⟨hx, hb, hml, -, hts, hown, -, hK⟩ := X
  rw [hy] at hown
  exact W.objInit hx hb hown (hts _ hg) (hts _ gi_OBJ) (hts _ gc_OBJ) rfl (by rw [hml]; exact hsz) rfl hdg hf (Nat.le_trans (show _ ≤ 20 from Nat.le_of_ble_eq_true rfl) hl) kk
end Rows
/-- a constructor's contract: the new object at the end of the world -/
def lk_Cn (l : Launch) (D : va_G) (τ : Nat → ClassId) (y : MethodName) (b : ByteArray) (nL : Nat) (lo mc ms : Nat) (a : Nat) (av : List Value) (ws : va_W) (e0 : va_E) (S : Nat × Nat → va_W) : Prop :=
  ∀ sz : Nat, Met l y (.code y b nL none :: lk_G) ({ frames := 1, cells := mc, slots := ms, locals := lo }) (va_Pc (.ref a :: av) (lk_Pre D τ (ws ++ [(a, e0)]) sz)) (va_Qv (fun _ : Nat × Nat => True) (fun u t => va_P D lk_cl (S u) t.heap ∧ va_D (va_A (ws ++ [(a, e0)]) sz) (S u) ∧ va_K D lk_cl (lk_tys τ) t) (va_A (ws ++ [(a, e0)]) sz)) mc ms (va_A (ws ++ [(a, e0)]) sz)
theorem lk_openN {l : Launch} {D : va_G} {τ : Nat → ClassId} {y : MethodName} {b : ByteArray} {nL lo mc ms a : Nat} {av : List Value} {ws : va_W} {e0 : va_E} {S : Nat × Nat → va_W} (hy : plainName y.cls = true) (hyn : y.name = "<init>") (hlen : (lg_sl (.ref a :: av)).length ≤ nL)
    (body : ∀ (p : Program) (e : Env) (s : State) (m : MethodId) (args : Array Value) (below : List Frame) (meth : Method) (c : Code) (ls : Array Slot) (A : Nat → Prop), lk_X p s m args meth c y b nL none D τ → meth.name = "<init>" → lk_H D lk_cl A s.heap ((ws ++ [(a, e0)]) ++ []) s.heap [] → (∀ q, s.heap.size ≤ q → A q) → lv_has ls nL (lv_args 0 (.ref a :: av)) →
      W p l e ({ frames := 1, cells := mc, slots := ms, locals := lo }) s m args below meth c s.heap [] 0 0 (MQ below (va_Qv (fun _ : Nat × Nat => True) (fun u t => va_P D lk_cl (S u) t.heap ∧ va_D A (S u) ∧ va_K D lk_cl (lk_tys τ) t) A) args s mc ms A) (F0 m 0 ls [])) :
    lk_Cn l D τ y b nL lo mc ms a av ws e0 S := by
  intro sz
  refine Met.ofW (cc := b) (maxL := nL) (ret := none) hy rfl ?_
  intro p e s m args below meth c s₁ B hml hv
  obtain ⟨rfl, hsz, hP, hK, hD0⟩ := hv
  have hts := atoms_spec (ws := .code y b nL none :: lk_G) B.pre
  subst hsz
  have hD := hD0.self (sz := s.heap.size)
  have hl := lv_entry (.ref a :: av) (n := nL) hlen
  rw [lg_entry_eq]
  refine body p e s m _ below meth c _ _ ⟨B.exec, B.bytes, hml, B.returns, fun w hw => hts w (List.mem_cons_of_mem _ hw), findClass_of_methodNamed B.named, B.notSynchronized, hK⟩ ((name_of_methodNamed B.named B.method).1.trans hyn) ⟨?_, ?_, va_S.rf⟩ (fun q h => Or.inr h) hl
  · rw [List.append_nil]; exact hP
  · rw [List.append_nil]; exact hD
theorem lk_retN {p : Program} {l : Launch} {e : Env} {R : Room} {s : State} {m : MethodId} {args : Array Value} {below : List Frame} {meth : Method} {c : Code} {H : Heap} {locs : List Loc} {D : va_G} {τ : Nat → ClassId} {y : MethodName} {b : ByteArray} {nL cells slots mc ms pc : Nat} {A : Nat → Prop} {ls : Array Slot} {S : Nat × Nat → va_W} (u : Nat × Nat) (X : lk_X p s m args meth c y b nL none D τ) (h : lk_H D lk_cl A s.heap (S u) H locs) (hc : cells ≤ mc) (hs : slots ≤ ms) (hdg : decode b pc = .ok (.return_, 1)) :
    W p l e R s m args below meth c H locs cells slots (MQ below (va_Qv (fun _ : Nat × Nat => True) (fun u t => va_P D lk_cl (S u) t.heap ∧ va_D A (S u) ∧ va_K D lk_cl (lk_tys τ) t) A) args s mc ms A) (F0 m pc ls []) := by
  obtain ⟨hx, hb, -, hr, -, -, hlocks, hK⟩ := X
  exact W.widen hc hs (W.vret hx hb hr (fun t ht hW => ⟨⟨u, rfl, trivial, by rw [ht]; exact h.P, h.D, va_K.moved hW.alike hK⟩, h.S.F ht⟩) h.S.2.2 hdg)
def lk_nd0 : List Value := [.int 0, .null, .null, .int 0, .int 0, .int 0, .int 0, .int 0, .int 0, .int 0, .int 0]
def lk_nd1 (n : Int32) (k s : Nat) : List Value := [.int n, .ref k, .ref s, .int 0, .int 0, .int 0, .int 0, .int 0, .int (-1), .int (-1), .int 0]
def lk_ta0 : List Value := [.int 0, .null, .int 0, .int 0, .int 0, .int 0, .int 0, .int 0, .int 0, .int 0, .int 0, .int 0, .int 0, .int 0, .int 0, .int 0]
def lk_ta1 (n : Int32) (k : Nat) : List Value := [.int n, .ref k, .int 1, .int 0, .int 0, .int 0, .int 0, .int 0, .int 0, .int 0, .int 0, .int 0, .int 0, .int 0, .int 0, .int 0]
set_option maxRecDepth 20000 in
theorem c_SP_init (l : Launch) (D : va_G) (τ : Nat → ClassId) (ws : va_W) (a : Nat) : lk_Cn l D τ y_SP_init b_SP_init 1 20 1 12 a [] ws (.inr (3, [.null, .int 0])) (fun u => (ws ++ [(a, .inr (3, [.ref u.1, .int 0]))]) ++ [(u.1, lk_ar τ 12)]) := by
  refine lk_openN (by decide +kernel) rfl (Nat.le_of_ble_eq_true rfl) ?_
  intro pg en s m args below meth cd ls A X hin h hA hl
  obtain ⟨hx, hb, -⟩ := id X
  have hl : lv_has ls 1 [(0, .ref a)] := hl
  have h : lk_H D lk_cl A s.heap ((ws ++ [(a, .inr (3, [.null, .int 0]))]) ++ []) s.heap [] := h
  refine lv_aload_n hx hb d_SP_init_0 rfl (lv_at hl 0 rfl) ?_
  refine in_obj X rfl gm_SP_3 hl.1 (by decide) (by decide) d_SP_init_1 ?_
  refine lv_aload_n hx hb d_SP_init_4 rfl (lv_at hl 0 rfl) ?_
  refine lv_bipush (v := nI 12) hx hb d_SP_init_5 (by decide) ?_
  refine in_newI X h hA (by decide) (by decide) (by decide) d_SP_init_7 (fun q7 H h => ?_)
  rw [List.append_assoc] at h
  have h : lk_H D lk_cl A s.heap ((ws ++ [(a, .inr (3, [.null, .int 0]))]) ++ [(q7, lk_ar τ 12)]) _ _ := h
  refine in_putF (v := .ref q7) X hin rfl h ws.length lk_getm rfl gl_SP ty_SP_ok nm_SP 0 (by decide) (.array .int) gf_SP_9 ⟨rfl, rfl, by decide +kernel⟩ ⟨rfl, rfl⟩ (Nat.le_of_ble_eq_true rfl) lk_setm d_SP_init_9 (fun H locs h => ?_)
  have h : lk_H D lk_cl A s.heap ((ws ++ [(a, .inr (3, [.ref q7, .int 0]))]) ++ [(q7, lk_ar τ 12)]) _ _ := h
  exact lk_retN (q7, 0) X h (by decide) (by decide) d_SP_init_12
set_option maxRecDepth 20000 in
theorem c_ND_init (l : Launch) (D : va_G) (τ : Nat → ClassId) (ws : va_W) (a : Nat) (n : Int32) : lk_Cn l D τ y_ND_init b_ND_init 2 20 2 10 a [.int n] ws (.inr (1, lk_nd0)) (fun u => (ws ++ [(a, .inr (1, lk_nd1 n u.1 u.2))]) ++ [(u.1, lk_ar τ 5), (u.2, lk_ar τ 5)]) := by
  refine lk_openN (by decide +kernel) rfl (Nat.le_of_ble_eq_true rfl) ?_
  intro pg en s m args below meth cd ls A X hin h hA hl
  obtain ⟨hx, hb, -⟩ := id X
  have hl : lv_has ls 2 [(0, .ref a), (1, .int n)] := hl
  have h : lk_H D lk_cl A s.heap ((ws ++ [(a, .inr (1, [.int 0, .null, .null, .int 0, .int 0, .int 0, .int 0, .int 0, .int 0, .int 0, .int 0]))]) ++ []) s.heap [] := h
  refine lv_aload_n hx hb d_ND_init_0 rfl (lv_at hl 0 rfl) ?_
  refine in_obj X rfl gm_ND_3 hl.1 (by decide) (by decide) d_ND_init_1 ?_
  refine lv_aload_n hx hb d_ND_init_4 rfl (lv_at hl 0 rfl) ?_
  refine lv_iconst (v := nI 5) hx hb d_ND_init_5 (by decide) ?_
  refine in_newI X h hA (by decide) (by decide) (by decide) d_ND_init_6 (fun q6 H h => ?_)
  rw [List.append_assoc] at h
  have h : lk_H D lk_cl A s.heap ((ws ++ [(a, .inr (1, [.int 0, .null, .null, .int 0, .int 0, .int 0, .int 0, .int 0, .int 0, .int 0, .int 0]))]) ++ [(q6, lk_ar τ 5)]) _ _ := h
  refine in_putF (v := .ref q6) X hin rfl h ws.length lk_getm rfl gl_ND ty_ND_ok nm_ND 1 (by decide) (.array .int) gf_ND_9 ⟨rfl, rfl, by decide +kernel⟩ ⟨rfl, rfl⟩ (Nat.le_of_ble_eq_true rfl) lk_setm d_ND_init_8 (fun H locs h => ?_)
  have h : lk_H D lk_cl A s.heap ((ws ++ [(a, .inr (1, [.int 0, .ref q6, .null, .int 0, .int 0, .int 0, .int 0, .int 0, .int 0, .int 0, .int 0]))]) ++ [(q6, lk_ar τ 5)]) _ _ := h
  refine lv_aload_n hx hb d_ND_init_11 rfl (lv_at hl 0 rfl) ?_
  refine lv_iconst (v := nI 5) hx hb d_ND_init_12 (by decide) ?_
  refine in_newI X h hA (by decide) (by decide) (by decide) d_ND_init_13 (fun q13 H h => ?_)
  rw [List.append_assoc] at h
  have h : lk_H D lk_cl A s.heap ((ws ++ [(a, .inr (1, [.int 0, .ref q6, .null, .int 0, .int 0, .int 0, .int 0, .int 0, .int 0, .int 0, .int 0]))]) ++ [(q6, lk_ar τ 5), (q13, lk_ar τ 5)]) _ _ := h
  refine in_putF (v := .ref q13) X hin rfl h ws.length lk_getm rfl gl_ND ty_ND_ok nm_ND 2 (by decide) (.array .int) gf_ND_15 ⟨rfl, rfl, by decide +kernel⟩ ⟨rfl, rfl⟩ (Nat.le_of_ble_eq_true rfl) lk_setm d_ND_init_15 (fun H locs h => ?_)
  have h : lk_H D lk_cl A s.heap ((ws ++ [(a, .inr (1, [.int 0, .ref q6, .ref q13, .int 0, .int 0, .int 0, .int 0, .int 0, .int 0, .int 0, .int 0]))]) ++ [(q6, lk_ar τ 5), (q13, lk_ar τ 5)]) _ _ := h
  refine lv_aload_n hx hb d_ND_init_18 rfl (lv_at hl 0 rfl) ?_
  refine lv_iconst (v := 0) hx hb d_ND_init_19 (by decide) ?_
  refine in_put (v := .int 0) X rfl h ws.length lk_getm rfl gl_ND ty_ND_ok nm_ND 4 (by decide) .int gf_ND_18 ⟨rfl, rfl, by decide +kernel⟩ ⟨rfl, rfl⟩ (Nat.le_of_ble_eq_true rfl) lk_setm d_ND_init_20 (fun H locs h => ?_)
  have h : lk_H D lk_cl A s.heap ((ws ++ [(a, .inr (1, [.int 0, .ref q6, .ref q13, .int 0, .int 0, .int 0, .int 0, .int 0, .int 0, .int 0, .int 0]))]) ++ [(q6, lk_ar τ 5), (q13, lk_ar τ 5)]) _ _ := h
  refine lv_aload_n hx hb d_ND_init_23 rfl (lv_at hl 0 rfl) ?_
  refine lv_iconst (v := (-1)) hx hb d_ND_init_24 (by decide) ?_
  refine in_put (v := .int (-1)) X rfl h ws.length lk_getm rfl gl_ND ty_ND_ok nm_ND 8 (by decide) .int gf_ND_22 ⟨rfl, rfl, by decide +kernel⟩ ⟨rfl, rfl⟩ (Nat.le_of_ble_eq_true rfl) lk_setm d_ND_init_25 (fun H locs h => ?_)
  have h : lk_H D lk_cl A s.heap ((ws ++ [(a, .inr (1, [.int 0, .ref q6, .ref q13, .int 0, .int 0, .int 0, .int 0, .int 0, .int (-1), .int 0, .int 0]))]) ++ [(q6, lk_ar τ 5), (q13, lk_ar τ 5)]) _ _ := h
  refine lv_aload_n hx hb d_ND_init_28 rfl (lv_at hl 0 rfl) ?_
  refine lv_iconst (v := (-1)) hx hb d_ND_init_29 (by decide) ?_
  refine in_put (v := .int (-1)) X rfl h ws.length lk_getm rfl gl_ND ty_ND_ok nm_ND 9 (by decide) .int gf_ND_25 ⟨rfl, rfl, by decide +kernel⟩ ⟨rfl, rfl⟩ (Nat.le_of_ble_eq_true rfl) lk_setm d_ND_init_30 (fun H locs h => ?_)
  have h : lk_H D lk_cl A s.heap ((ws ++ [(a, .inr (1, [.int 0, .ref q6, .ref q13, .int 0, .int 0, .int 0, .int 0, .int 0, .int (-1), .int (-1), .int 0]))]) ++ [(q6, lk_ar τ 5), (q13, lk_ar τ 5)]) _ _ := h
  refine lv_aload_n hx hb d_ND_init_33 rfl (lv_at hl 0 rfl) ?_
  refine lv_iload_n hx hb d_ND_init_34 rfl (lv_at hl 1 rfl) ?_
  refine in_putF (v := .int n) X hin rfl h ws.length lk_getm rfl gl_ND ty_ND_ok nm_ND 0 (by decide) .int gf_ND_28 ⟨rfl, rfl, by decide +kernel⟩ ⟨rfl, rfl⟩ (Nat.le_of_ble_eq_true rfl) lk_setm d_ND_init_35 (fun H locs h => ?_)
  have h : lk_H D lk_cl A s.heap ((ws ++ [(a, .inr (1, [.int n, .ref q6, .ref q13, .int 0, .int 0, .int 0, .int 0, .int 0, .int (-1), .int (-1), .int 0]))]) ++ [(q6, lk_ar τ 5), (q13, lk_ar τ 5)]) _ _ := h
  exact lk_retN (q6, q13) X h (by decide) (by decide) d_ND_init_38
set_option maxRecDepth 20000 in
theorem c_TA_init (l : Launch) (D : va_G) (τ : Nat → ClassId) (ws : va_W) (a : Nat) (n : Int32) : lk_Cn l D τ y_TA_init b_TA_init 2 20 1 25 a [.int n] ws (.inr (2, lk_ta0)) (fun u => (ws ++ [(a, .inr (2, lk_ta1 n u.1))]) ++ [(u.1, lk_ar τ 25)]) := by
  refine lk_openN (by decide +kernel) rfl (Nat.le_of_ble_eq_true rfl) ?_
  intro pg en s m args below meth cd ls A X hin h hA hl
  obtain ⟨hx, hb, -⟩ := id X
  have hl : lv_has ls 2 [(0, .ref a), (1, .int n)] := hl
  have h : lk_H D lk_cl A s.heap ((ws ++ [(a, .inr (2, [.int 0, .null, .int 0, .int 0, .int 0, .int 0, .int 0, .int 0, .int 0, .int 0, .int 0, .int 0, .int 0, .int 0, .int 0, .int 0]))]) ++ []) s.heap [] := h
  refine lv_aload_n hx hb d_TA_init_0 rfl (lv_at hl 0 rfl) ?_
  refine in_obj X rfl gm_TA_3 hl.1 (by decide) (by decide) d_TA_init_1 ?_
  refine lv_aload_n hx hb d_TA_init_4 rfl (lv_at hl 0 rfl) ?_
  refine lv_bipush (v := nI 25) hx hb d_TA_init_5 (by decide) ?_
  refine in_newI X h hA (by decide) (by decide) (by decide) d_TA_init_7 (fun q7 H h => ?_)
  rw [List.append_assoc] at h
  have h : lk_H D lk_cl A s.heap ((ws ++ [(a, .inr (2, [.int 0, .null, .int 0, .int 0, .int 0, .int 0, .int 0, .int 0, .int 0, .int 0, .int 0, .int 0, .int 0, .int 0, .int 0, .int 0]))]) ++ [(q7, lk_ar τ 25)]) _ _ := h
  refine in_putF (v := .ref q7) X hin rfl h ws.length lk_getm rfl gl_TA ty_TA_ok nm_TA 1 (by decide) (.array .int) gf_TA_9 ⟨rfl, rfl, by decide +kernel⟩ ⟨rfl, rfl⟩ (Nat.le_of_ble_eq_true rfl) lk_setm d_TA_init_9 (fun H locs h => ?_)
  have h : lk_H D lk_cl A s.heap ((ws ++ [(a, .inr (2, [.int 0, .ref q7, .int 0, .int 0, .int 0, .int 0, .int 0, .int 0, .int 0, .int 0, .int 0, .int 0, .int 0, .int 0, .int 0, .int 0]))]) ++ [(q7, lk_ar τ 25)]) _ _ := h
  refine lv_aload_n hx hb d_TA_init_12 rfl (lv_at hl 0 rfl) ?_
  refine lv_iconst (v := 1) hx hb d_TA_init_13 (by decide) ?_
  refine in_put (v := .int 1) X rfl h ws.length lk_getm rfl gl_TA ty_TA_ok nm_TA 2 (by decide) .boolean gf_TA_15 ⟨rfl, rfl, by decide +kernel⟩ ⟨rfl, rfl⟩ (Nat.le_of_ble_eq_true rfl) lk_setm d_TA_init_14 (fun H locs h => ?_)
  have h : lk_H D lk_cl A s.heap ((ws ++ [(a, .inr (2, [.int 0, .ref q7, .int 1, .int 0, .int 0, .int 0, .int 0, .int 0, .int 0, .int 0, .int 0, .int 0, .int 0, .int 0, .int 0, .int 0]))]) ++ [(q7, lk_ar τ 25)]) _ _ := h
  refine lv_aload_n hx hb d_TA_init_17 rfl (lv_at hl 0 rfl) ?_
  refine lv_iload_n hx hb d_TA_init_18 rfl (lv_at hl 1 rfl) ?_
  refine in_putF (v := .int n) X hin rfl h ws.length lk_getm rfl gl_TA ty_TA_ok nm_TA 0 (by decide) .int gf_TA_19 ⟨rfl, rfl, by decide +kernel⟩ ⟨rfl, rfl⟩ (Nat.le_of_ble_eq_true rfl) lk_setm d_TA_init_19 (fun H locs h => ?_)
  have h : lk_H D lk_cl A s.heap ((ws ++ [(a, .inr (2, [.int n, .ref q7, .int 1, .int 0, .int 0, .int 0, .int 0, .int 0, .int 0, .int 0, .int 0, .int 0, .int 0, .int 0, .int 0, .int 0]))]) ++ [(q7, lk_ar τ 25)]) _ _ := h
  exact lk_retN (q7, 0) X h (by decide) (by decide) d_TA_init_22
