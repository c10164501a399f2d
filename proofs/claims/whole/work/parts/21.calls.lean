/-! contracts over a world by numbers, and their use -/
abbrev lk_cl : List vw_C := [(R_LT, T_LT, 5), (R_ND, T_ND, 11), (R_TA, T_TA, 16), (R_SP, T_SP, 2), (R_MO, T_MO, 27)]
def lk_tys (τ : Nat → ClassId) : List (ClassId × FieldType) := [(τ 0, .int), (τ 1, .boolean), (τ 2, .object "LinkTree$Node"), (τ 3, .object "LinkTree$Task"), (τ 4, .long)]
def lk_Pre (D : va_G) (τ : Nat → ClassId) (ws : va_W) (sz : Nat) (U : State) : Prop := U.heap.size = sz ∧ va_P D lk_cl ws U.heap ∧ va_K D lk_cl (lk_tys τ) U ∧ va_D (fun _ => True) ws
def lk_Bh (D : va_G) (τ : Nat → ClassId) (n : Nat) (ad : Nat → Nat) (el : lk_M → Nat → va_E) (σ : lk_M) (t : State) : Prop := va_P D lk_cl (lk_w n ad (el σ)) t.heap ∧ va_K D lk_cl (lk_tys τ) t
abbrev lk_rm (fr lo : Nat) : Room := { frames := fr, cells := 0, slots := 0, locals := lo }
def lk_Ci (l : Launch) (D : va_G) (τ : Nat → ClassId) (n : Nat) (ad : Nat → Nat) (el : lk_M → Nat → va_E) (y : MethodName) (b : ByteArray) (nL : Nat) (ty : FieldType) (fr lo : Nat) (av : List Value) (σ : lk_M) (post : Int32 → lk_M → Prop) : Prop :=
  ∀ sz : Nat, Met l y (.code y b nL (some ty) :: lk_G) (lk_rm fr lo) (va_Pc av (lk_Pre D τ (lk_w n ad (el σ)) sz)) (va_Qi post (lk_Bh D τ n ad el) (lk_A n ad sz)) 0 0 (lk_A n ad sz)
def lk_Cv (l : Launch) (D : va_G) (τ : Nat → ClassId) (n : Nat) (ad : Nat → Nat) (el : lk_M → Nat → va_E) (y : MethodName) (b : ByteArray) (nL : Nat) (fr lo : Nat) (av : List Value) (σ : lk_M) (post : lk_M → Prop) : Prop :=
  ∀ sz : Nat, Met l y (.code y b nL none :: lk_G) (lk_rm fr lo) (va_Pc av (lk_Pre D τ (lk_w n ad (el σ)) sz)) (va_Qv post (lk_Bh D τ n ad el) (lk_A n ad sz)) 0 0 (lk_A n ad sz)
def lk_Cq (l : Launch) (D : va_G) (τ : Nat → ClassId) (n : Nat) (ad : Nat → Nat) (el : lk_M → Nat → va_E) (y : MethodName) (b : ByteArray) (nL : Nat) (ty : FieldType) (fr lo : Nat) (av : List Value) (σ : lk_M) (post : Option Nat → lk_M → Prop) : Prop :=
  ∀ sz : Nat, Met l y (.code y b nL (some ty) :: lk_G) (lk_rm fr lo) (va_Pc av (lk_Pre D τ (lk_w n ad (el σ)) sz)) (va_Qq post (lk_Bh D τ n ad el) (lk_A n ad sz)) 0 0 (lk_A n ad sz)
/-- what a body has at hand -/
def lk_X (p : Program) (s : State) (m : MethodId) (args : Array Value) (meth : Method) (c : Code) (y : MethodName) (b : ByteArray) (nL : Nat) (ret : Option FieldType) (D : va_G) (τ : Nat → ClassId) : Prop :=
  p.tables.exec = Jvm.exec ∧ c.code = b ∧ c.maxLocals = nL ∧ meth.sig.returnType = ret ∧ (∀ w ∈ lk_G, w.before args s = true) ∧ s.vm.findClass y.cls = some m.cls ∧ meth.locks = false ∧ va_K D lk_cl (lk_tys τ) s
theorem lk_A_D {A : Nat → Prop} {n : Nat} {ad : Nat → Nat} {e : Nat → va_E} {H0 H : Heap} {locs : List Loc} (hD : va_D A (lk_w n ad e)) (hS : va_S A H0 H locs) (hA : ∀ q, H0.size ≤ q → A q) : ∀ q, lk_A n ad H.size q → A q := by
  intro q h
  rcases h with ⟨k, hk, rfl⟩ | h
  · exact hD.2 k _ (lk_w_get hk)
  · exact hA q (Nat.le_trans hS.1 h)
section Open
variable {l : Launch} {D : va_G} {τ : Nat → ClassId} {n : Nat} {ad : Nat → Nat} {el : lk_M → Nat → va_E} {y : MethodName} {b : ByteArray} {nL : Nat} {ty : FieldType} {fr lo : Nat} {av : List Value} {σ : lk_M}
theorem lk_open {ret : Option FieldType} {mk : (Nat → Prop) → Array Value → State → Outcome → State → Prop} (hy : plainName y.cls = true) (hlen : (lg_sl av).length ≤ nL)
    (body : ∀ (p : Program) (e : Env) (s : State) (m : MethodId) (args : Array Value) (below : List Frame) (meth : Method) (c : Code) (ls : Array Slot) (A : Nat → Prop), lk_X p s m args meth c y b nL ret D τ → lk_H D lk_cl A s.heap (lk_w n ad (el σ)) s.heap [] → (∀ q, s.heap.size ≤ q → A q) → lv_has ls nL (lv_args 0 av) →
      W p l e (lk_rm fr lo) s m args below meth c s.heap [] 0 0 (MQ below (mk A) args s 0 0 A) (F0 m 0 ls [])) :
    ∀ sz : Nat, Met l y (.code y b nL ret :: lk_G) (lk_rm fr lo) (va_Pc av (lk_Pre D τ (lk_w n ad (el σ)) sz)) (mk (lk_A n ad sz)) 0 0 (lk_A n ad sz) := by
  intro sz
  refine Met.ofW (cc := b) (maxL := nL) (ret := ret) hy rfl ?_
  intro p e s m args below meth c s₁ B hml hv
  obtain ⟨rfl, hsz, hP, hK, hD0⟩ := hv
  have hts := atoms_spec (ws := .code y b nL ret :: lk_G) B.pre
  subst hsz
  have hD : va_D (lk_A n ad s.heap.size) (lk_w n ad (el σ)) := lk_w_Dw hD0 (fun k hk => Or.inl ⟨k, hk, rfl⟩)
  have hl := lv_entry av (n := nL) hlen
  rw [lg_entry_eq]
  exact body p e s m _ below meth c _ _ ⟨B.exec, B.bytes, hml, B.returns, fun w hw => hts w (List.mem_cons_of_mem _ hw), findClass_of_methodNamed B.named, B.notSynchronized, hK⟩ ⟨hP, hD, va_S.rf⟩ (fun q h => Or.inr h) hl
end Open
section Ends
variable {p : Program} {l : Launch} {e : Env} {R : Room} {s : State} {m : MethodId} {args : Array Value} {below : List Frame} {meth : Method} {c : Code} {H : Heap} {locs : List Loc}
variable {D : va_G} {τ : Nat → ClassId} {n : Nat} {ad : Nat → Nat} {el : lk_M → Nat → va_E} {y : MethodName} {b : ByteArray} {nL : Nat} {A : Nat → Prop} {pc : Nat} {ls : Array Slot} {σ : lk_M}
theorem lk_reti {post : Int32 → lk_M → Prop} {v : Int32} (X : lk_X p s m args meth c y b nL (some .int) D τ) (h : lk_H D lk_cl A s.heap (lk_w n ad (el σ)) H locs) (hdg : decode b pc = .ok (.ireturn, 1)) (hp : post v σ) :
    W p l e R s m args below meth c H locs 0 0 (MQ below (va_Qi post (lk_Bh D τ n ad el) A) args s 0 0 A) (F0 m pc ls [.int v]) := by
  obtain ⟨hx, hb, -, hr, -, -, hlocks, hK⟩ := X
  exact W.iret hx hb hr (fun t ht hW => ⟨⟨v, σ, rfl, hp, by rw [ht]; exact h.P, va_K.moved hW.alike hK⟩, h.S.F ht⟩) h.S.2.2 hdg
theorem lk_retz {post : Int32 → lk_M → Prop} {v : Int32} (X : lk_X p s m args meth c y b nL (some .boolean) D τ) (h : lk_H D lk_cl A s.heap (lk_w n ad (el σ)) H locs) (hdg : decode b pc = .ok (.ireturn, 1)) (hv : v = 0 ∨ v = 1) (hp : post v σ) :
    W p l e R s m args below meth c H locs 0 0 (MQ below (va_Qi post (lk_Bh D τ n ad el) A) args s 0 0 A) (F0 m pc ls [.int v]) := by
  obtain ⟨hx, hb, -, hr, -, -, hlocks, hK⟩ := X
  have hn : narrow .boolean (.int v) = .int v := by rcases hv with rfl | rfl <;> decide
  exact W.zret hx hb hr hn (fun t ht hW => ⟨⟨v, σ, rfl, hp, by rw [ht]; exact h.P, va_K.moved hW.alike hK⟩, h.S.F ht⟩) h.S.2.2 hdg
theorem lk_retv {post : lk_M → Prop} (X : lk_X p s m args meth c y b nL none D τ) (h : lk_H D lk_cl A s.heap (lk_w n ad (el σ)) H locs) (hdg : decode b pc = .ok (.return_, 1)) (hp : post σ) :
    W p l e R s m args below meth c H locs 0 0 (MQ below (va_Qv post (lk_Bh D τ n ad el) A) args s 0 0 A) (F0 m pc ls []) := by
  obtain ⟨hx, hb, -, hr, -, -, hlocks, hK⟩ := X
  exact W.vret hx hb hr (fun t ht hW => ⟨⟨σ, rfl, hp, by rw [ht]; exact h.P, va_K.moved hW.alike hK⟩, h.S.F ht⟩) h.S.2.2 hdg
end Ends
section Calls
variable {p : Program} {l : Launch} {e : Env} {R : Room} {s : State} {m : MethodId} {args : Array Value} {below : List Frame} {meth : Method} {c : Code} {H : Heap} {locs : List Loc} {cells slots : Nat} {Q : State → Prop}
variable {D : va_G} {τ : Nat → ClassId} {n : Nat} {ad : Nat → Nat} {el : lk_M → Nat → va_E} {y y0 : MethodName} {b cc : ByteArray} {nL maxL index na : Nat} {ret : Option FieldType} {ty : FieldType} {fr lo : Nat} {A : Nat → Prop} {H0 : Heap} {pc : Nat} {ls : Array Slot} {σ : lk_M} {As rest : List Value} {bb : Nat}
theorem lk_blind {av : List Value} {ws : va_W} {sz : Nat} : FrameBlind (va_Pc av (lk_Pre D τ ws sz)) := fun a U g mk q => by
  obtain ⟨q0, q1, qP, qK, qD⟩ := q
  exact ⟨q0, q1, qP, va_K.moved (u := U) (U := U.calling g mk a) (Vm.Alike.refl U.vm) qK, qD⟩
theorem lk_pres {av : List Value} (hK : va_K D lk_cl (lk_tys τ) s) (h : lk_H D lk_cl A H0 (lk_w n ad (el σ)) H locs) : ∀ U : State, U.heap = H → s.WarmedH U.vm → va_Pc av (lk_Pre D τ (lk_w n ad (el σ)) H.size) av.toArray U :=
  fun U hU hW => ⟨rfl, by rw [hU], by rw [hU]; exact h.P, va_K.moved hW.alike hK, h.D.weaken (fun _ _ _ _ => trivial)⟩
/-- the words and the room of a call -/
def lk_cd (R : Room) (own : String) (index : Nat) (y : MethodName) (b : ByteArray) (maxL : Nat) (rt : Option FieldType) (fr lo na : Nat) : Prop :=
  Cond.code y b maxL rt ∈ lk_G ∧ Cond.methodLink own index y ∈ lk_G ∧ Cond.initialized y.cls ∈ lk_G ∧ (y.cls ≠ "java/lang/invoke/MethodHandle" ∧ y.cls ≠ "java/lang/invoke/VarHandle" ∧ (parseMethodDescriptor y.desc).map (fun d => d.parameters.length) = some na) ∧ fr + 1 ≤ R.frames ∧ 8 + (maxL + 11) + lo ≤ R.locals
theorem lk_cb {own : String} {rt : Option FieldType} (hts : ∀ w ∈ lk_G, w.before args s = true) (h : lk_cd R own index y b maxL rt fr lo na) : CallB R s args own index y b maxL rt (.code y b maxL rt :: lk_G) (lk_rm fr lo) 0 0 na :=
  callB_of na hts (lk_gin (fun _ h => h) h.1) rfl rfl rfl (hts _ h.2.2.1) (hts _ h.2.1) h.2.2.2.1 h.2.2.2.2
/-- where the receiver lies -/
def lk_rc (ws : va_W) (bb : Nat) (C : String) : Prop := ∃ (q0 ci : Nat) (fs : List Value) (T : u_T) (N : Nat), ws[q0]? = some (bb, .inr (ci, fs)) ∧ lk_cl[ci]? = some (C, T, N)
theorem lk_runV {C : String} {rt : Option FieldType} {mk : (Nat → Prop) → Array Value → State → Outcome → State → Prop} (X : lk_X p s m args meth c y0 cc nL ret D τ) (h : lk_H D lk_cl A H0 (lk_w n ad (el σ)) H locs)
    (hM : ∀ sz : Nat, Met l y (.code y b maxL rt :: lk_G) (lk_rm fr lo) (va_Pc (.ref bb :: As) (lk_Pre D τ (lk_w n ad (el σ)) sz)) (mk (lk_A n ad sz)) 0 0 (lk_A n ad sz))
    (hc : lk_cd R y0.cls index y b maxL rt fr lo na) (hi : Cond.instanceMethod y ∈ lk_G) (hse : Cond.selects C y y ∈ lk_G) (hrc : lk_rc (lk_w n ad (el σ)) bb C) (hn : As.length = na) (hsz : ls.size = nL) (hW : (rest.map fun v => v.category).sum ≤ 8) (hdg : decode cc pc = .ok (.invokevirtual index, 3)) (hcl : cells ≤ R.cells ∧ slots ≤ R.slots) :
    va_Run p l e R s m args below meth c H locs cells slots 0 0 (F0 m pc ls (As.reverse ++ .ref bb :: rest)) rest (mk (lk_A n ad H.size) (Value.ref bb :: As).toArray) (lk_A n ad H.size) := by
  obtain ⟨hx, hb, hml, -, hts, hown, -, hK⟩ := X
  obtain ⟨q0, ci, fs, T, N, he, hcc⟩ := hrc
  exact va_runV (As := As) (rest := rest) ⟨hx, hb, hml, hown, hts⟩ (hM H.size) ⟨lk_cb hts hc, hts _ hi, hts _ hse⟩ ⟨lk_blind, va_recv hK h.P hcc he, lk_pres hK h⟩ rfl hn hsz rfl (lv_room (rest := As.reverse ++ .ref bb :: rest) hW) hdg hcl
theorem lk_runS {rt : Option FieldType} {mk : (Nat → Prop) → Array Value → State → Outcome → State → Prop} (X : lk_X p s m args meth c y0 cc nL ret D τ) (h : lk_H D lk_cl A H0 (lk_w n ad (el σ)) H locs)
    (hM : ∀ sz : Nat, Met l y (.code y b maxL rt :: lk_G) (lk_rm fr lo) (va_Pc As (lk_Pre D τ (lk_w n ad (el σ)) sz)) (mk (lk_A n ad sz)) 0 0 (lk_A n ad sz))
    (hc : lk_cd R y0.cls index y b maxL rt fr lo na) (hi : Cond.static y ∈ lk_G) (hn : As.length = na) (hsz : ls.size = nL) (hW : (rest.map fun v => v.category).sum ≤ 8) (hdg : decode cc pc = .ok (.invokestatic index, 3)) (hcl : cells ≤ R.cells ∧ slots ≤ R.slots) :
    va_Run p l e R s m args below meth c H locs cells slots 0 0 (F0 m pc ls (As.reverse ++ rest)) rest (mk (lk_A n ad H.size) As.toArray) (lk_A n ad H.size) := by
  obtain ⟨hx, hb, hml, -, hts, hown, -, hK⟩ := X
  exact va_runS (As := As) (rest := rest) ⟨hx, hb, hml, hown, hts⟩ (hM H.size) ⟨lk_cb hts hc, hts _ hi⟩ ⟨lk_blind, lk_pres hK h⟩ rfl hn hsz rfl (lv_room (rest := As.reverse ++ rest) hW) hdg hcl
theorem lk_goi {st0 : List Value} {a : Array Value} {post : Int32 → lk_M → Prop} (hr : va_Run p l e R s m args below meth c H locs cells slots 0 0 (F0 m pc ls st0) rest (va_Qi post (lk_Bh D τ n ad el) (lk_A n ad H.size) a) (lk_A n ad H.size)) (h : lk_H D lk_cl A H0 (lk_w n ad (el σ)) H locs) (hA : ∀ q, H0.size ≤ q → A q)
    (kk : ∀ (r : Int32) (σ' : lk_M) (H1 : Heap) (locs1 : List Loc), post r σ' → lk_H D lk_cl A H0 (lk_w n ad (el σ')) H1 locs1 → W p l e R s m args below meth c H1 locs1 cells slots Q (F0 m (pc + 3) ls (.int r :: rest))) : W p l e R s m args below meth c H locs cells slots Q (F0 m pc ls st0) :=
  va_calli hr h.S (fun q _ hq => lk_A_D h.D h.S hA q hq) (lk_A_D h.D h.S hA) (fun r u t H1 locs1 ht _ hp hB _ _ hS => kk r u H1 locs1 hp ⟨by rw [← ht]; exact hB.1, lk_w_D h.D, hS⟩)
theorem lk_gov {st0 : List Value} {a : Array Value} {post : lk_M → Prop} (hr : va_Run p l e R s m args below meth c H locs cells slots 0 0 (F0 m pc ls st0) rest (va_Qv post (lk_Bh D τ n ad el) (lk_A n ad H.size) a) (lk_A n ad H.size)) (h : lk_H D lk_cl A H0 (lk_w n ad (el σ)) H locs) (hA : ∀ q, H0.size ≤ q → A q)
    (kk : ∀ (σ' : lk_M) (H1 : Heap) (locs1 : List Loc), post σ' → lk_H D lk_cl A H0 (lk_w n ad (el σ')) H1 locs1 → W p l e R s m args below meth c H1 locs1 cells slots Q (F0 m (pc + 3) ls rest)) : W p l e R s m args below meth c H locs cells slots Q (F0 m pc ls st0) :=
  va_callv hr h.S (fun q _ hq => lk_A_D h.D h.S hA q hq) (lk_A_D h.D h.S hA) (fun u t H1 locs1 ht _ hp hB _ _ hS => kk u H1 locs1 hp ⟨by rw [← ht]; exact hB.1, lk_w_D h.D, hS⟩)
theorem lk_goq {st0 : List Value} {a : Array Value} {post : Option Nat → lk_M → Prop} (hr : va_Run p l e R s m args below meth c H locs cells slots 0 0 (F0 m pc ls st0) rest (va_Qq post (lk_Bh D τ n ad el) (lk_A n ad H.size) a) (lk_A n ad H.size)) (h : lk_H D lk_cl A H0 (lk_w n ad (el σ)) H locs) (hA : ∀ q, H0.size ≤ q → A q)
    (kk : ∀ (r : Option Nat) (σ' : lk_M) (H1 : Heap) (locs1 : List Loc), post r σ' → lk_H D lk_cl A H0 (lk_w n ad (el σ')) H1 locs1 → W p l e R s m args below meth c H1 locs1 cells slots Q (F0 m (pc + 3) ls (va_rf r :: rest))) : W p l e R s m args below meth c H locs cells slots Q (F0 m pc ls st0) :=
  va_callq hr h.S (fun q _ hq => lk_A_D h.D h.S hA q hq) (lk_A_D h.D h.S hA) (fun r u t H1 locs1 ht _ hp hB _ _ hS => kk r u H1 locs1 hp ⟨by rw [← ht]; exact hB.1, lk_w_D h.D, hS⟩)
end Calls
