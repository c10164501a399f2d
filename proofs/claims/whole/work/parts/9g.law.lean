/-! the law: the class's world and the reference's, side by side -/
def lk_J (D : va_G) (τ : Nat → ClassId) (A : Nat → Prop) (H0 : Heap) (adC adM : Nat → Nat) (C M : lk_M) (H : Heap) (locs : List Loc) : Prop :=
  lk_H D lk_cl A H0 (lk_w 89 adC (lk_cf τ adC C)) H locs ∧ lk_H D lk_cl A H0 (lk_w 25 adM (lk_me τ adM M)) H locs ∧ ∀ i, i < 89 → ∀ j, j < 25 → adC i ≠ adM j
theorem lk_keepW {D : va_G} {H H1 : Heap} {n n2 : Nat} {ad ad2 : Nat → Nat} {e : Nat → va_E} (hP : va_P D lk_cl (lk_w n ad e) H) (hap : ∀ i, i < n → ∀ j, j < n2 → ad i ≠ ad2 j) (hq : ∀ q : Nat, q < H.size → ¬ lk_A n2 ad2 H.size q → H1[q]? = H[q]?) : va_P D lk_cl (lk_w n ad e) H1 := by
  refine hP.kept (fun k q hk => ?_)
  have lt := vx_lt hP hk
  obtain ⟨h1, rfl⟩ := lk_w_lt hk
  refine hq _ lt (fun z => ?_)
  rcases z with ⟨j, hj, z⟩ | z
  · exact hap k h1 j hj z.symm
  · exact absurd lt (Nat.not_lt.mpr z)
section LawJ
variable {D : va_G} {τ : Nat → ClassId} {A : Nat → Prop} {H0 H H1 : Heap} {adC adM : Nat → Nat} {C C' M M' : lk_M} {locs locs1 : List Loc}
theorem lk_J.c (h : lk_J D τ A H0 adC adM C M H locs) (hP : va_P D lk_cl (lk_w 89 adC (lk_cf τ adC C')) H1) (hq : ∀ q : Nat, q < H.size → ¬ lk_A 89 adC H.size q → H1[q]? = H[q]?) (hS : va_S A H0 H1 locs1) : lk_J D τ A H0 adC adM C' M H1 locs1 :=
  ⟨⟨hP, lk_w_D h.1.D, hS⟩, ⟨lk_keepW h.2.1.P (fun i hi j hj z => h.2.2 j hj i hi z.symm) hq, h.2.1.D, hS⟩, h.2.2⟩
theorem lk_J.m (h : lk_J D τ A H0 adC adM C M H locs) (hP : va_P D lk_cl (lk_w 25 adM (lk_me τ adM M')) H1) (hq : ∀ q : Nat, q < H.size → ¬ lk_A 25 adM H.size q → H1[q]? = H[q]?) (hS : va_S A H0 H1 locs1) : lk_J D τ A H0 adC adM C M' H1 locs1 :=
  ⟨⟨lk_keepW h.1.P (fun i hi j hj => h.2.2 i hi j hj) hq, h.1.D, hS⟩, ⟨hP, lk_w_D h.2.1.D, hS⟩, h.2.2⟩
end LawJ
section LawCall
variable {p : Program} {l : Launch} {e : Env} {R : Room} {s : State} {m : MethodId} {args : Array Value} {below : List Frame} {meth : Method} {c : Code} {H : Heap} {locs : List Loc} {cells slots : Nat} {Q : State → Prop}
variable {D : va_G} {τ : Nat → ClassId} {adC adM : Nat → Nat} {C M : lk_M} {y y0 : MethodName} {b cc : ByteArray} {nL maxL index na : Nat} {ret : Option FieldType} {fr lo FR LO : Nat} {A : Nat → Prop} {pc : Nat} {ls : Array Slot} {As rest : List Value}
/-- a helper of the law is called -/
theorem lk_callW {hh : List (Nat × Nat × Nat × Nat)} {post : Int32 → lk_M → Prop} (X : lk_X p s m args meth c y0 cc nL ret D τ) (hT : ∀ w ∈ lk_GT, w.before args s = true) (hE : lk_En A s s.heap) (hA : ∀ q, s.heap.size ≤ q → A q) (J : lk_J D τ A s.heap adC adM C M H locs)
    (hM : lk_Lw l D τ adC y b maxL hh FR LO As C post) (hcw : (Cond.codeWith y b maxL (some .int) hh).before args s = true) (hl : Cond.methodLink y0.cls index y ∈ lk_G) (hst : Cond.static y ∈ lk_G) (hini : Cond.initialized y.cls ∈ lk_G)
    (hd : y.cls ≠ "java/lang/invoke/MethodHandle" ∧ y.cls ≠ "java/lang/invoke/VarHandle" ∧ (parseMethodDescriptor y.desc).map (fun d => d.parameters.length) = some na) (hR : FR + 1 ≤ R.frames ∧ 8 + (maxL + 11) + LO ≤ R.locals) (hn : As.length = na) (hsz : ls.size = nL) (hW : (rest.map fun v => v.category).sum ≤ 8) (hdg : decode cc pc = .ok (.invokestatic index, 3)) (hf : cells + 1 ≤ R.cells ∧ slots + 6 ≤ R.slots)
    (kk : ∀ (r : Int32) (C' : lk_M) (H1 : Heap) (locs1 : List Loc), post r C' → lk_J D τ A s.heap adC adM C' M H1 locs1 → W p l e R s m args below meth c H1 locs1 (cells + 1) (slots + 6) Q (F0 m (pc + 3) ls (.int r :: rest))) : W p l e R s m args below meth c H locs cells slots Q (F0 m pc ls (As.reverse ++ rest)) := by
  obtain ⟨hx, hb, hml, -, hts, hown, -, hK⟩ := X
  have hts2 : ∀ w ∈ Cond.codeWith y b maxL (some .int) hh :: (lk_G ++ lk_GT), w.before args s = true := fun w hw => (List.mem_cons.mp hw).elim (fun e => by rw [e]; exact hcw) (fun hw => (List.mem_append.mp hw).elim (hts w) (hT w))
  have hgd : GoodIn (Cond.codeWith y b maxL (some .int) hh :: (lk_G ++ lk_GT)) (Cond.codeWith y b maxL (some .int) hh :: (lk_G ++ lk_GT)) := fun w hw => ⟨hw, (List.mem_cons.mp hw).elim (fun e => by rw [e]; exact Or.inl rfl) (fun hw => good_of_word ((List.mem_append.mp hw).elim (lk_okG w) (lk_okGT w)))⟩
  have hr := vx_runSX (p := p) (l := l) (e := e) (R := R) (s := s) (m := m) (args := args) (below := below) (meth := meth) (c := c) (H := H) (locs := locs) (cells := cells) (slots := slots) (g := F0 m pc ls (As.reverse ++ rest)) (As := As) (rest := rest) (Ts := Cond.codeWith y b maxL (some .int) hh :: (lk_G ++ lk_GT)) (n := na) (index := index) (own := y0.cls) (bytes := b) (maxL := maxL) (ret := some .int) (hh := hh) ⟨hx, hb, hml, hown, hts2⟩ (hM H.size)
    ⟨⟨rfl, rfl, hR.1, hR.2, pay_in hts2 hgd, List.mem_cons_self⟩, hcw, hts _ hini, ⟨hd.1, hd.2.1⟩, fun sig h => by have h2 := hd.2.2; rw [h] at h2; exact (Option.some.inj h2).symm, hts _ hl, hts _ hst⟩ ⟨lk_blindX, lk_presX hE hA hK J.1⟩ rfl hn hsz rfl (lv_room (rest := As.reverse ++ rest) hW) hdg hf
  exact vx_calli hr J.1.S (fun q _ hq => lk_A_D J.1.D J.1.S hA q hq) (lk_A_D J.1.D J.1.S hA) (fun q _ hq => lk_A_D J.1.D J.1.S hA q hq) (fun E ce q9 u t H1 locs1 _ _ hu => hu.elim) (fun r u t H1 locs1 ht _ hp hB _ hk hS => kk r u H1 locs1 hp (J.c (by rw [← ht]; exact hB.1) hk hS))
/-- a method of the reference is called -/
theorem lk_callM {post : Int32 → lk_M → Prop} (X : lk_X p s m args meth c y0 cc nL ret D τ) (hA : ∀ q, s.heap.size ≤ q → A q) (J : lk_J D τ A s.heap adC adM C M H locs)
    (hM : lk_Ci l D τ 25 adM (lk_me τ adM) y b maxL .int fr lo (.ref (adM 0) :: As) M post) (hc : lk_cd R y0.cls index y b maxL (some .int) fr lo na) (hi : Cond.instanceMethod y ∈ lk_G) (hse : Cond.selects R_MO y y ∈ lk_G) (hn : As.length = na) (hsz : ls.size = nL) (hW : (rest.map fun v => v.category).sum ≤ 8) (hdg : decode cc pc = .ok (.invokevirtual index, 3)) (hcl : cells ≤ R.cells ∧ slots ≤ R.slots)
    (kk : ∀ (r : Int32) (M' : lk_M) (H1 : Heap) (locs1 : List Loc), post r M' → lk_J D τ A s.heap adC adM C M' H1 locs1 → W p l e R s m args below meth c H1 locs1 cells slots Q (F0 m (pc + 3) ls (.int r :: rest))) : W p l e R s m args below meth c H locs cells slots Q (F0 m pc ls (As.reverse ++ .ref (adM 0) :: rest)) :=
  va_calli (lk_runV (mk := fun A => va_Qi post (lk_Bh D τ 25 adM (lk_me τ adM)) A) X J.2.1 hM hc hi hse ⟨0, 4, _, _, _, lk_w_get (by decide), rfl⟩ hn hsz hW hdg hcl) J.2.1.S (fun q _ hq => lk_A_D J.2.1.D J.2.1.S hA q hq) (lk_A_D J.2.1.D J.2.1.S hA) (fun r u t H1 locs1 ht _ hp hB _ hk hS => kk r u H1 locs1 hp (J.m (by rw [← ht]; exact hB.1) hk hS))
theorem lk_callMv {post : lk_M → Prop} (X : lk_X p s m args meth c y0 cc nL ret D τ) (hA : ∀ q, s.heap.size ≤ q → A q) (J : lk_J D τ A s.heap adC adM C M H locs)
    (hM : lk_Cv l D τ 25 adM (lk_me τ adM) y b maxL fr lo (.ref (adM 0) :: As) M post) (hc : lk_cd R y0.cls index y b maxL none fr lo na) (hi : Cond.instanceMethod y ∈ lk_G) (hse : Cond.selects R_MO y y ∈ lk_G) (hn : As.length = na) (hsz : ls.size = nL) (hW : (rest.map fun v => v.category).sum ≤ 8) (hdg : decode cc pc = .ok (.invokevirtual index, 3)) (hcl : cells ≤ R.cells ∧ slots ≤ R.slots)
    (kk : ∀ (M' : lk_M) (H1 : Heap) (locs1 : List Loc), post M' → lk_J D τ A s.heap adC adM C M' H1 locs1 → W p l e R s m args below meth c H1 locs1 cells slots Q (F0 m (pc + 3) ls rest)) : W p l e R s m args below meth c H locs cells slots Q (F0 m pc ls (As.reverse ++ .ref (adM 0) :: rest)) :=
  va_callv (lk_runV (mk := fun A => va_Qv post (lk_Bh D τ 25 adM (lk_me τ adM)) A) X J.2.1 hM hc hi hse ⟨0, 4, _, _, _, lk_w_get (by decide), rfl⟩ hn hsz hW hdg hcl) J.2.1.S (fun q _ hq => lk_A_D J.2.1.D J.2.1.S hA q hq) (lk_A_D J.2.1.D J.2.1.S hA) (fun u t H1 locs1 ht _ hp hB _ hk hS => kk u H1 locs1 hp (J.m (by rw [← ht]; exact hB.1) hk hS))
/-- a method of the class is called by the law itself -/
theorem lk_callC {post : Int32 → lk_M → Prop} (X : lk_X p s m args meth c y0 cc nL ret D τ) (hA : ∀ q, s.heap.size ≤ q → A q) (J : lk_J D τ A s.heap adC adM C M H locs)
    (hM : lk_Ci l D τ 88 adC (lk_ce τ adC) y b maxL .int fr lo (.ref (adC 0) :: As) C post) (hc : lk_cd R y0.cls index y b maxL (some .int) fr lo na) (hi : Cond.instanceMethod y ∈ lk_G) (hse : Cond.selects R_LT y y ∈ lk_G) (hn : As.length = na) (hsz : ls.size = nL) (hW : (rest.map fun v => v.category).sum ≤ 8) (hdg : decode cc pc = .ok (.invokevirtual index, 3)) (hcl : cells ≤ R.cells ∧ slots ≤ R.slots)
    (kk : ∀ (r : Int32) (C' : lk_M) (H1 : Heap) (locs1 : List Loc), post r C' → lk_J D τ A s.heap adC adM (lk_st C' 25 0 (C 25 0)) M H1 locs1 → W p l e R s m args below meth c H1 locs1 cells slots Q (F0 m (pc + 3) ls (.int r :: rest))) : W p l e R s m args below meth c H locs cells slots Q (F0 m pc ls (As.reverse ++ .ref (adC 0) :: rest)) :=
  va_calli (lk_runV (mk := fun A => va_Qi post (lk_Bh D τ 88 adC (lk_ce τ adC)) A) X (lk_sub9 J.1) hM hc hi hse ⟨0, 0, _, _, _, lk_w_get (by decide), rfl⟩ hn hsz hW hdg hcl) J.1.S (fun q _ hq => lk_A_D9 J.1 hA q hq) (lk_A_D9 J.1 hA) (fun r u t H1 locs1 ht _ hp hB _ hk hS => kk r u H1 locs1 hp (J.c (lk_add9 J.1 (by rw [← ht]; exact hB.1) hk hS).P (fun q h1 h2 => hk q h1 (fun z => h2 (by
    rcases z with ⟨j, hj, z⟩ | z
    · exact Or.inl ⟨j, by omega, z⟩
    · exact Or.inr z))) hS))
/-- the box is read -/
theorem lk_lald (X : lk_X p s m args meth c y0 cc nL ret D τ) (J : lk_J D τ A s.heap adC adM C M H locs) (hdg : decode cc pc = .ok (.laload, 1))
    (kk : W p l e R s m args below meth c H locs cells slots Q (F0 m (pc + 1) ls (.long (C 25 0).toInt64 :: rest))) : W p l e R s m args below meth c H locs cells slots Q (F0 m pc ls (.int 0 :: .ref (adC 88) :: rest)) := by
  obtain ⟨hx, hb, hml, -, hts, hown, -, hK⟩ := X
  have z0 : Int32.toNatClampNeg 0 = 0 := by decide
  refine va_lald hx hb hK J.1.P 88 4 (f := fun j => if j = 0 then (C 25 0).toInt64 else 0) (lk_w_get (by decide)) rfl (i := 0) ?_ hdg ?_
  · unfold vp_in; decide
  · rw [z0, if_pos rfl]; exact kk
end LawCall
