/-! the law's helpers: the class's world with the box of one long as its cell 88 (field 25 of the memory) -/
def lk_bx (τ : Nat → ClassId) (x : Int32) : va_E := .inl (τ 4, 1, .inr (.inl (fun j => if j = 0 then x.toInt64 else 0)))
def lk_cf (τ : Nat → ClassId) (ad : Nat → Nat) (M : lk_M) : Nat → va_E := fun k => if k < 88 then lk_ce τ ad M k else lk_bx τ (M 25 0)
def lk_Lw (l : Launch) (D : va_G) (τ : Nat → ClassId) (ad : Nat → Nat) (y : MethodName) (b : ByteArray) (nL : Nat) (hh : List (Nat × Nat × Nat × Nat)) (FR LO : Nat) (av : List Value) (σ : lk_M) (post : Int32 → lk_M → Prop) : Prop :=
  ∀ sz : Nat, vx_Met l y (.codeWith y b nL (some .int) hh :: (lk_G ++ lk_GT)) (lk_rx FR LO) (va_Pc av (lk_PreX D τ 89 ad (lk_w 89 ad (lk_cf τ ad σ)) sz)) (va_Qi post (lk_Bh D τ 89 ad (lk_cf τ ad)) (lk_A 89 ad sz)) (vx_X (fun _ : lk_M => False) (fun _ _ _ => True) (lk_A 89 ad sz)) 1 6 (lk_A 89 ad sz)
theorem lk_ce_25 {τ : Nat → ClassId} {ad : Nat → Nat} {σ : lk_M} {x : Int32} : lk_ce τ ad (lk_st σ 25 0 x) = lk_ce τ ad σ := rfl
theorem lk_ginX {c : Cond} (hc : c ∈ lk_G) : GoodIn (lk_G ++ lk_GT) (c :: (lk_G ++ lk_GT)) := fun w hw => (List.mem_cons.mp hw).elim (fun e => by rw [e]; exact ⟨List.mem_append_left _ hc, good_of_word (lk_okG _ hc)⟩) (fun hw => ⟨hw, good_of_word ((List.mem_append.mp hw).elim (lk_okG w) (lk_okGT w))⟩)
section Open
variable {l : Launch} {D : va_G} {τ : Nat → ClassId} {ad : Nat → Nat} {y : MethodName} {b : ByteArray} {nL : Nat} {hh : List (Nat × Nat × Nat × Nat)} {FR LO : Nat} {av : List Value} {σ : lk_M} {post : Int32 → lk_M → Prop}
theorem lk_openW (hy : plainName y.cls = true) (hlen : (lg_sl av).length ≤ nL)
    (body : ∀ (p : Program) (e : Env) (s : State) (m : MethodId) (args : Array Value) (below : List Frame) (meth : Method) (c : Code) (ls : Array Slot) (A : Nat → Prop), lk_X p s m args meth c y b nL (some .int) D τ → lk_H D lk_cl A s.heap (lk_w 89 ad (lk_cf τ ad σ)) s.heap [] → (∀ q, s.heap.size ≤ q → A q) → lv_has ls nL (lv_args 0 av) → (∀ w ∈ lk_GT, w.before args s = true) → lk_En A s s.heap → c.exceptionTable.toList = tableOf hh →
      W p l e (lk_rx FR LO) s m args below meth c s.heap [] 0 0 (vx_MQ below (va_Qi post (lk_Bh D τ 89 ad (lk_cf τ ad)) A) (vx_X (fun _ : lk_M => False) (fun _ _ _ => True) A) args s 1 6 A) (F0 m 0 ls [])) :
    lk_Lw l D τ ad y b nL hh FR LO av σ post := by
  intro sz
  refine vx_ofWH (cc := b) (maxL := nL) (ret := some .int) (hh := hh) hy rfl ?_
  intro p e s m args below meth c s₁ B hml hv
  obtain ⟨rfl, ⟨hsz, hP, hK, hD0⟩, hE⟩ := hv
  have hts := atoms_spec (ws := .codeWith y b nL (some .int) hh :: (lk_G ++ lk_GT)) B.pre
  have htb := vx_table (x := y) B (hts _ List.mem_cons_self)
  subst hsz
  have hD : va_D (lk_A 89 ad s.heap.size) (lk_w 89 ad (lk_cf τ ad σ)) := lk_w_Dw hD0 (fun k hk => Or.inl ⟨k, hk, rfl⟩)
  have hl := lv_entry av (n := nL) hlen
  rw [lg_entry_eq]
  exact body p e s m _ below meth c _ _ ⟨B.exec, B.bytes, hml, B.returns, fun w hw => hts w (List.mem_cons_of_mem _ (List.mem_append_left _ hw)), findClass_of_methodNamed B.named, B.notSynchronized, hK⟩ ⟨hP, hD, va_S.rf⟩ (fun q h => Or.inr h) hl (fun w hw => hts w (List.mem_cons_of_mem _ (List.mem_append_right _ hw))) hE htb
end Open
section Calls
variable {p : Program} {l : Launch} {e : Env} {R : Room} {s : State} {m : MethodId} {args : Array Value} {below : List Frame} {meth : Method} {c : Code} {H : Heap} {locs : List Loc} {cells slots : Nat} {Q : State → Prop}
variable {D : va_G} {τ : Nat → ClassId} {ad : Nat → Nat} {y y0 : MethodName} {b cc : ByteArray} {nL maxL index na : Nat} {ret : Option FieldType} {fr lo : Nat} {A : Nat → Prop} {H0 : Heap} {pc : Nat} {ls : Array Slot} {σ : lk_M} {As rest : List Value}
theorem lk_sub9 (h : lk_H D lk_cl A H0 (lk_w 89 ad (lk_cf τ ad σ)) H locs) : lk_H D lk_cl A H0 (lk_w 88 ad (lk_ce τ ad σ)) H locs := by
  have g : ∀ (k : Nat) (q : Nat × va_E), (lk_w 88 ad (lk_ce τ ad σ))[k]? = some q → (lk_w 89 ad (lk_cf τ ad σ))[k]? = some q := by
    intro k q hk
    obtain ⟨h1, rfl⟩ := lk_w_lt hk
    rw [lk_w_get (by omega)]
    unfold lk_cf
    rw [if_pos h1]
  exact ⟨h.P.by (fun k => k) g, ⟨fun i j x y hx hy => h.D.1 i j x y (g i x hx) (g j y hy), fun k q hk => h.D.2 k q (g k q hk)⟩, h.S⟩
/-- the other way: the class's cells as they came back, the box as it was -/
theorem lk_add9 {σ' : lk_M} {H1 : Heap} {locs1 : List Loc} (h : lk_H D lk_cl A H0 (lk_w 89 ad (lk_cf τ ad σ)) H locs) (hP : va_P D lk_cl (lk_w 88 ad (lk_ce τ ad σ')) H1) (hq : ∀ q : Nat, q < H.size → ¬ lk_A 88 ad H.size q → H1[q]? = H[q]?) (hS : va_S A H0 H1 locs1) : lk_H D lk_cl A H0 (lk_w 89 ad (lk_cf τ ad (lk_st σ' 25 0 (σ 25 0)))) H1 locs1 := by
  refine ⟨fun k q hk => ?_, lk_w_D h.D, hS⟩
  obtain ⟨h1, rfl⟩ := lk_w_lt hk
  by_cases h2 : k < 88
  · have e : lk_cf τ ad (lk_st σ' 25 0 (σ 25 0)) k = lk_ce τ ad σ' k := by
      unfold lk_cf
      rw [if_pos h2, lk_ce_25]
    rw [e]
    exact hP k _ (lk_w_get h2)
  · have h3 : k = 88 := by omega
    subst h3
    have e : lk_cf τ ad (lk_st σ' 25 0 (σ 25 0)) 88 = lk_cf τ ad σ 88 := by
      unfold lk_cf
      rw [if_neg (by decide), if_neg (by decide), lk_st_s]
    rw [e]
    have hb := h.P 88 _ (lk_w_get (by decide))
    refine hb.kept (hq _ hb.lt (fun z => ?_))
    rcases z with ⟨j, hj, z⟩ | z
    · have := h.D.1 j 88 _ _ (lk_w_get (by omega)) (lk_w_get (by decide)) z
      omega
    · have := hb.lt
      exact absurd z (Nat.not_le.mpr this)
theorem lk_A_D9 (h : lk_H D lk_cl A H0 (lk_w 89 ad (lk_cf τ ad σ)) H locs) (hA : ∀ q, H0.size ≤ q → A q) : ∀ q, lk_A 88 ad H.size q → A q := lk_A_D (lk_sub9 h).D h.S hA
theorem lk_goi9 {st0 : List Value} {a : Array Value} {post : Int32 → lk_M → Prop} (hr : va_Run p l e R s m args below meth c H locs cells slots 0 0 (F0 m pc ls st0) rest (va_Qi post (lk_Bh D τ 88 ad (lk_ce τ ad)) (lk_A 88 ad H.size) a) (lk_A 88 ad H.size)) (h : lk_H D lk_cl A H0 (lk_w 89 ad (lk_cf τ ad σ)) H locs) (hA : ∀ q, H0.size ≤ q → A q)
    (kk : ∀ (r : Int32) (σ' : lk_M) (H1 : Heap) (locs1 : List Loc), post r σ' → lk_H D lk_cl A H0 (lk_w 89 ad (lk_cf τ ad (lk_st σ' 25 0 (σ 25 0)))) H1 locs1 → W p l e R s m args below meth c H1 locs1 cells slots Q (F0 m (pc + 3) ls (.int r :: rest))) : W p l e R s m args below meth c H locs cells slots Q (F0 m pc ls st0) :=
  va_calli hr h.S (fun q _ hq => lk_A_D9 h hA q hq) (lk_A_D9 h hA) (fun r u t H1 locs1 ht _ hp hB _ hk hS => kk r u H1 locs1 hp (lk_add9 h (by rw [← ht]; exact hB.1) hk hS))
theorem lk_gov9 {st0 : List Value} {a : Array Value} {post : lk_M → Prop} (hr : va_Run p l e R s m args below meth c H locs cells slots 0 0 (F0 m pc ls st0) rest (va_Qv post (lk_Bh D τ 88 ad (lk_ce τ ad)) (lk_A 88 ad H.size) a) (lk_A 88 ad H.size)) (h : lk_H D lk_cl A H0 (lk_w 89 ad (lk_cf τ ad σ)) H locs) (hA : ∀ q, H0.size ≤ q → A q)
    (kk : ∀ (σ' : lk_M) (H1 : Heap) (locs1 : List Loc), post σ' → lk_H D lk_cl A H0 (lk_w 89 ad (lk_cf τ ad (lk_st σ' 25 0 (σ 25 0)))) H1 locs1 → W p l e R s m args below meth c H1 locs1 cells slots Q (F0 m (pc + 3) ls rest)) : W p l e R s m args below meth c H locs cells slots Q (F0 m pc ls st0) :=
  va_callv hr h.S (fun q _ hq => lk_A_D9 h hA q hq) (lk_A_D9 h hA) (fun u t H1 locs1 ht _ hp hB _ hk hS => kk u H1 locs1 hp (lk_add9 h (by rw [← ht]; exact hB.1) hk hS))
theorem lk_blindX {n : Nat} {av : List Value} {ws : va_W} {sz : Nat} : FrameBlind (va_Pc av (lk_PreX D τ n ad ws sz)) := fun a U g mk q => by
  obtain ⟨q0, ⟨q1, qP, qK, qD⟩, qE⟩ := q
  exact ⟨q0, ⟨q1, qP, va_K.moved (u := U) (U := U.calling g mk a) (Vm.Alike.refl U.vm) qK, qD⟩, qE.go (U := U.calling g mk a) (State.WarmedH.refl U) (fun _ _ _ => rfl)⟩
theorem lk_presX {n : Nat} {el : lk_M → Nat → va_E} {av : List Value} (hE : lk_En A s s.heap) (hA : ∀ q, s.heap.size ≤ q → A q) (hK : va_K D lk_cl (lk_tys τ) s) (h : lk_H D lk_cl A s.heap (lk_w n ad (el σ)) H locs) : ∀ U : State, U.heap = H → s.WarmedH U.vm → va_Pc av (lk_PreX D τ n ad (lk_w n ad (el σ)) H.size) av.toArray U :=
  fun U hU hW => ⟨rfl, (lk_pres (av := av) hK h U hU hW).2, by rw [hU]; exact (hE.go hW h.S.2.1).narrow (lk_A_D h.D h.S hA)⟩
theorem lk_runX {rt : Option FieldType} {cls : String} {mk : (Nat → Prop) → Array Value → State → Outcome → State → Prop} (X : lk_X p s m args meth c y0 cc nL ret D τ) (hT : ∀ w ∈ lk_GT, w.before args s = true) (hE : lk_En A s s.heap) (hA : ∀ q, s.heap.size ≤ q → A q) (h : lk_H D lk_cl A s.heap (lk_w 89 ad (lk_cf τ ad σ)) H locs)
    (hM : ∀ sz : Nat, vx_Met l y (.code y b maxL rt :: (lk_G ++ lk_GT)) (lk_rx fr lo) (va_Pc (.ref (ad 0) :: As) (lk_PreX D τ 88 ad (lk_w 88 ad (lk_ce τ ad σ)) sz)) (mk (lk_A 88 ad sz)) (lk_XC D τ 88 ad (lk_ce τ ad) σ cls (lk_A 88 ad sz)) 1 6 (lk_A 88 ad sz))
    (hc : lk_cd R y0.cls index y b maxL rt fr lo na) (hi : Cond.instanceMethod y ∈ lk_G) (hse : Cond.selects R_LT y y ∈ lk_G) (hn : As.length = na) (hsz : ls.size = nL) (hW : (rest.map fun v => v.category).sum ≤ 8) (hdg : decode cc pc = .ok (.invokevirtual index, 3)) (hR : 1 ≤ R.cells ∧ 6 ≤ R.slots) :
    vx_Run p l e R s m args below meth c H locs 0 0 1 6 (F0 m pc ls (As.reverse ++ .ref (ad 0) :: rest)) rest (mk (lk_A 88 ad H.size) (Value.ref (ad 0) :: As).toArray) (lk_XC D τ 88 ad (lk_ce τ ad) σ cls (lk_A 88 ad H.size)) (lk_A 88 ad H.size) := by
  obtain ⟨hx, hb, hml, -, hts, hown, -, hK⟩ := X
  have hts2 : ∀ w ∈ lk_G ++ lk_GT, w.before args s = true := fun w hw => (List.mem_append.mp hw).elim (hts w) (hT w)
  have h8 := lk_sub9 h
  exact vx_runV (As := As) (rest := rest) (Ts := lk_G ++ lk_GT) ⟨hx, hb, hml, hown, hts2⟩ (hM H.size) ⟨callB_of na hts2 (lk_ginX hc.1) rfl rfl rfl (hts _ hc.2.2.1) (hts _ hc.2.1) hc.2.2.2.1 hc.2.2.2.2, hts _ hi, hts _ hse⟩ ⟨lk_blindX, va_recv hK h8.P (ci := 0) rfl (lk_w_get (k := 0) (by decide)), lk_presX hE hA hK h8⟩ rfl hn hsz rfl (lv_room (rest := As.reverse ++ .ref (ad 0) :: rest) hW) hdg ⟨by have := hR.1; omega, by have := hR.2; omega⟩
theorem lk_goXi {st0 : List Value} {a : Array Value} {cls : String} (hr : vx_Run p l e R s m args below meth c H locs 0 0 1 6 (F0 m pc ls st0) rest (va_Qi (fun _ (_ : lk_M) => False) (lk_Bh D τ 88 ad (lk_ce τ ad)) (lk_A 88 ad H.size) a) (lk_XC D τ 88 ad (lk_ce τ ad) σ cls (lk_A 88 ad H.size)) (lk_A 88 ad H.size)) (h : lk_H D lk_cl A H0 (lk_w 89 ad (lk_cf τ ad σ)) H locs) (hA : ∀ q, H0.size ≤ q → A q)
    (kk : ∀ (ce : Cell) (q9 : Addr) (H1 : Heap) (locs1 : List Loc), lk_H D lk_cl A H0 (lk_w 89 ad (lk_cf τ ad (lk_st σ 25 0 (σ 25 0)))) H1 locs1 → H1[q9]? = some ce → ce.vm = .none → s.vm.findClass cls = some ce.cls → vx_W p l e R s m args below meth c H1 locs1 1 6 Q (F0 m pc ls rest) q9) : W p l e R s m args below meth c H locs 0 0 Q (F0 m pc ls st0) :=
  vx_calli hr h.S (fun q _ hq => lk_A_D9 h hA q hq) (lk_A_D9 h hA) (fun q _ hq => lk_A_D9 h hA q hq)
    (fun E ce q9 u t H1 locs1 ht _ hu hB _ hk hS hce hcv hcl => by
      obtain ⟨rfl, hB⟩ := hB
      subst hu
      exact kk ce q9 H1 locs1 (lk_add9 h (by rw [← ht]; exact hB.1) hk hS) hce hcv hcl)
    (fun r u t H1 locs1 _ _ hp => hp.elim)
theorem lk_goXv {st0 : List Value} {a : Array Value} {cls : String} (hr : vx_Run p l e R s m args below meth c H locs 0 0 1 6 (F0 m pc ls st0) rest (va_Qv (fun (_ : lk_M) => False) (lk_Bh D τ 88 ad (lk_ce τ ad)) (lk_A 88 ad H.size) a) (lk_XC D τ 88 ad (lk_ce τ ad) σ cls (lk_A 88 ad H.size)) (lk_A 88 ad H.size)) (h : lk_H D lk_cl A H0 (lk_w 89 ad (lk_cf τ ad σ)) H locs) (hA : ∀ q, H0.size ≤ q → A q)
    (kk : ∀ (ce : Cell) (q9 : Addr) (H1 : Heap) (locs1 : List Loc), lk_H D lk_cl A H0 (lk_w 89 ad (lk_cf τ ad (lk_st σ 25 0 (σ 25 0)))) H1 locs1 → H1[q9]? = some ce → ce.vm = .none → s.vm.findClass cls = some ce.cls → vx_W p l e R s m args below meth c H1 locs1 1 6 Q (F0 m pc ls rest) q9) : W p l e R s m args below meth c H locs 0 0 Q (F0 m pc ls st0) :=
  vx_callv hr h.S (fun q _ hq => lk_A_D9 h hA q hq) (lk_A_D9 h hA) (fun q _ hq => lk_A_D9 h hA q hq)
    (fun E ce q9 u t H1 locs1 ht _ hu hB _ hk hS hce hcv hcl => by
      obtain ⟨rfl, hB⟩ := hB
      subst hu
      exact kk ce q9 H1 locs1 (lk_add9 h (by rw [← ht]; exact hB.1) hk hS) hce hcv hcl)
    (fun u t H1 locs1 _ _ hp => hp.elim)
theorem lk_retW {post : Int32 → lk_M → Prop} {XC : String → State → State → Prop} {v : Int32} (X : lk_X p s m args meth c y b nL (some .int) D τ) (h : lk_H D lk_cl A s.heap (lk_w 89 ad (lk_cf τ ad σ)) H locs) (hdg : decode b pc = .ok (.ireturn, 1)) (h1 : cells ≤ 1) (h2 : slots ≤ 6) (hp : post v σ) :
    W p l e R s m args below meth c H locs cells slots (vx_MQ below (va_Qi post (lk_Bh D τ 89 ad (lk_cf τ ad)) A) XC args s 1 6 A) (F0 m pc ls [.int v]) := by
  obtain ⟨hx, hb, -, hr, -, -, hlocks, hK⟩ := X
  exact W.widen h1 h2 (vx_ret (W.iret hx hb hr (fun t ht hW => ⟨⟨v, σ, rfl, hp, by rw [ht]; exact h.P, va_K.moved hW.alike hK⟩, h.S.F ht⟩) h.S.2.2 hdg))
theorem lk_st25 {x z : Int32} : lk_st (lk_st σ 25 0 x) 25 0 z = lk_st σ 25 0 z := lk_st_st _ _ _ _ _
theorem lk_box {x : Int32} (X : lk_X p s m args meth c y b nL ret D τ) (h : lk_H D lk_cl A H0 (lk_w 89 ad (lk_cf τ ad σ)) H locs) (hdg : decode b pc = .ok (.lastore, 1))
    (kk : ∀ (H1 : Heap) (locs1 : List Loc), lk_H D lk_cl A H0 (lk_w 89 ad (lk_cf τ ad (lk_st σ 25 0 x))) H1 locs1 → W p l e R s m args below meth c H1 locs1 cells slots Q (F0 m (pc + 1) ls rest)) : W p l e R s m args below meth c H locs cells slots Q (F0 m pc ls (.long x.toInt64 :: .int 0 :: .ref (ad 88) :: rest)) := by
  obtain ⟨hx, hb, -, -, -, -, -, hK⟩ := X
  refine va_last hx hb hK h.P h.D h.S 88 4 (f := fun j => if j = 0 then (σ 25 0).toInt64 else 0) (lk_w_get (by decide)) rfl (i := 0) (x := x.toInt64) ?_ hdg ?_
  · unfold vp_in; decide
  · intro H1 locs1 hP hD hS
    refine kk H1 locs1 ?_
    have e0 : vp_updL (fun j => if j = 0 then (σ 25 0).toInt64 else 0) (Int32.toNatClampNeg 0) x.toInt64 = fun j => if j = 0 then x.toInt64 else 0 := by
      funext j
      have z0 : Int32.toNatClampNeg 0 = 0 := by decide
      rw [z0]
      unfold vp_updL
      by_cases hj : j = 0
      · simp [hj]
      · simp [hj]
    rw [e0] at hP hD
    have e : (lk_w 89 ad (lk_cf τ ad σ)).set 88 (ad 88, .inl (τ 4, 1, .inr (.inl (fun j => if j = 0 then x.toInt64 else 0)))) = lk_w 89 ad (lk_cf τ ad (lk_st σ 25 0 x)) := by
      rw [lk_w_set (by decide)]
      apply lk_w_congr
      intro k hk
      by_cases h2 : k = 88
      · subst h2
        rw [va_up_self]
        unfold lk_cf lk_bx
        rw [if_neg (by decide), lk_st_s]
      · rw [va_up_ne _ _ h2]
        unfold lk_cf
        rw [if_pos (by omega), if_pos (by omega), lk_ce_25]
    exact ⟨by rw [← e]; exact hP, by rw [← e]; exact hD, hS⟩
end Calls
