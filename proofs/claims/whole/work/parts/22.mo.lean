/-! the reference's world: its object (0), its arrays (1 .. 24: the fields 0 .. 23 of the memory) -/
def lk_sz (k : Nat) : Nat := ([24, 24, 24, 24, 24, 24, 24, 120, 120, 24, 12, 4, 4, 4, 4, 4, 4, 4, 4, 128, 4, 4, 16, 120] : List Nat).getD k 0
def lk_mf (ad : Nat → Nat) (M : lk_M) : List Value := [.int (M 24 2), .ref (ad 1), .ref (ad 2), .ref (ad 3), .ref (ad 4), .ref (ad 5), .ref (ad 6), .ref (ad 7), .ref (ad 8), .ref (ad 9), .ref (ad 10), .int (M 24 0), .int (M 24 1), .ref (ad 11), .ref (ad 12), .ref (ad 13), .ref (ad 14), .ref (ad 15), .ref (ad 16), .ref (ad 17), .ref (ad 18), .ref (ad 19), .ref (ad 20), .ref (ad 21), .ref (ad 22), .ref (ad 23), .ref (ad 24)]
def lk_me (τ : Nat → ClassId) (ad : Nat → Nat) (M : lk_M) : Nat → va_E := fun k => if k = 0 then .inr (4, lk_mf ad M) else .inl (if k = 12 ∨ k = 21 then τ 1 else τ 0, lk_sz (k - 1), .inl (M (k - 1)))
theorem lk_me_0 (τ : Nat → ClassId) (ad : Nat → Nat) (M : lk_M) : lk_me τ ad M 0 = .inr (4, lk_mf ad M) := rfl
theorem lk_me_s (τ : Nat → ClassId) (ad : Nat → Nat) (M : lk_M) (k : Nat) : lk_me τ ad M (k + 1) = .inl (if k = 11 ∨ k = 20 then τ 1 else τ 0, lk_sz k, .inl (M k)) := by
  unfold lk_me
  rw [if_neg (by omega), Nat.add_sub_cancel]
  congr 2
  by_cases h : k = 11 ∨ k = 20
  · rw [if_pos h, if_pos (by omega)]
  · rw [if_neg h, if_neg (by omega)]
/-- an array's place is written -/
theorem lk_me_up (τ : Nat → ClassId) (ad : Nat → Nat) (M : lk_M) {k : Nat} (hk : k < 24) (i : Nat) (v : Int32) : va_up (lk_me τ ad M) (k + 1) (.inl (if k = 11 ∨ k = 20 then τ 1 else τ 0, lk_sz k, .inl (upd (M k) i v))) = lk_me τ ad (lk_st M k i v) := by
  funext j
  cases j with
  | zero =>
    rw [va_up_ne _ _ (by omega), lk_me_0, lk_me_0]
    unfold lk_mf
    have e : ∀ x, lk_st M k i v 24 x = M 24 x := fun x => by rw [lk_st_eq, if_neg (by omega)]
    rw [e, e, e]
  | succ j =>
    by_cases h : j = k
    · subst h
      rw [va_up_self, lk_me_s]
      unfold lk_st
      rw [va_up_self]
    · rw [va_up_ne _ _ (by omega), lk_me_s, lk_me_s]
      unfold lk_st
      rw [va_up_ne _ _ h]
/-- a number of the object is written -/
theorem lk_me_up0 (τ : Nat → ClassId) (ad : Nat → Nat) (M : lk_M) (i : Nat) (v : Int32) : lk_w 25 ad (va_up (lk_me τ ad M) 0 (.inr (4, lk_mf ad (lk_st M 24 i v)))) = lk_w 25 ad (lk_me τ ad (lk_st M 24 i v)) := by
  apply lk_w_congr
  intro j hj
  cases j with
  | zero => rw [va_up_self, lk_me_0]
  | succ j =>
    rw [va_up_ne _ _ (by omega), lk_me_s, lk_me_s]
    unfold lk_st
    rw [va_up_ne _ _ (by omega)]
section MoRows
variable {p : Program} {l : Launch} {e : Env} {R : Room} {s : State} {m : MethodId} {args : Array Value} {below : List Frame} {meth : Method} {c : Code} {H : Heap} {locs : List Loc} {cells slots : Nat} {Q : State → Prop}
variable {D : va_G} {τ : Nat → ClassId} {ad : Nat → Nat} {y : MethodName} {cc : ByteArray} {nL index : Nat} {ret : Option FieldType} {A : Nat → Prop} {H0 : Heap} {pc : Nat} {ls : Array Slot} {M : lk_M} {rest : List Value}
/-- a field of the object is read -/
theorem mo_get (X : lk_X p s m args meth c y cc nL ret D τ) (hy : y.cls = R_MO) (h : lk_H D lk_cl A H0 (lk_w 25 ad (lk_me τ ad M)) H locs) (k : Nat) (hk : k < 27) {v : Value} (hv : (lk_mf ad M)[k]? = some v) (hg : Cond.fieldLink R_MO index "LinkTreeModel" (T_MO k).2.1 (T_MO k).2.2.1 ∈ lk_G) (hd : (T_MO k).1 = "LinkTreeModel") (hdg : decode cc pc = .ok (.getfield index, 3))
    (kk : W p l e R s m args below meth c H locs cells slots Q (F0 m (pc + 3) ls (v :: rest))) : W p l e R s m args below meth c H locs cells slots Q (F0 m pc ls (.ref (ad 0) :: rest)) := by
  obtain ⟨hx, hb, -, -, hts, hown, -, hK⟩ := X
  rw [hy] at hown
  exact va_get (D := D) (ci := 4) (C := R_MO) (T := T_MO) (N := 27) hx hb hts gl_MO hown hK h.P 0 (lk_w_get (by omega)) rfl k hk (hts _ hg) (fun x9 h9 => by rw [hd] at h9; exact h9) hv hdg kk
/-- an int array's place is read -/
theorem mo_ald (X : lk_X p s m args meth c y cc nL ret D τ) (h : lk_H D lk_cl A H0 (lk_w 25 ad (lk_me τ ad M)) H locs) (k N : Nat) (hN : lk_sz k = N) (hk : k < 24 ∧ k ≠ 11 ∧ k ≠ 20) {j : Nat} (hj : j < N) (hN2 : N < 200) (hdg : decode cc pc = .ok (.iaload, 1))
    (kk : W p l e R s m args below meth c H locs cells slots Q (F0 m (pc + 1) ls (.int (M k j) :: rest))) : W p l e R s m args below meth c H locs cells slots Q (F0 m pc ls (.int (nI j) :: .ref (ad (k + 1)) :: rest)) := by
  obtain ⟨hx, hb, -, -, hts, hown, -, hK⟩ := X
  subst hN
  have he : (lk_w 25 ad (lk_me τ ad M))[k + 1]? = some (ad (k + 1), .inl (τ 0, lk_sz k, .inl (M k))) := by
    rw [lk_w_get (by omega), lk_me_s, if_neg (by omega)]
  refine va_iald hx hb hK h.P (k + 1) 0 he rfl (vp_in_nI hj (by omega)) hdg ?_
  rw [nI_clamp (by omega)]
  exact kk
theorem mo_zald (X : lk_X p s m args meth c y cc nL ret D τ) (h : lk_H D lk_cl A H0 (lk_w 25 ad (lk_me τ ad M)) H locs) (k : Nat) (hk : k = 11 ∨ k = 20) {j : Nat} (hj : j < 4) (hdg : decode cc pc = .ok (.baload, 1))
    (kk : W p l e R s m args below meth c H locs cells slots Q (F0 m (pc + 1) ls (.int (M k j) :: rest))) : W p l e R s m args below meth c H locs cells slots Q (F0 m pc ls (.int (nI j) :: .ref (ad (k + 1)) :: rest)) := by
  obtain ⟨hx, hb, -, -, hts, hown, -, hK⟩ := X
  have he : (lk_w 25 ad (lk_me τ ad M))[k + 1]? = some (ad (k + 1), .inl (τ 1, 4, .inl (M k))) := by
    rw [lk_w_get (by omega), lk_me_s, if_pos hk]
    rcases hk with rfl | rfl <;> rfl
  refine va_zald hx hb hK h.P (k + 1) 1 he rfl (vp_in_nI hj (by omega)) hdg ?_
  rw [nI_clamp (by omega)]
  exact kk
/-- an int array's place is written -/
theorem mo_ast (X : lk_X p s m args meth c y cc nL ret D τ) (h : lk_H D lk_cl A H0 (lk_w 25 ad (lk_me τ ad M)) H locs) (k N : Nat) (hN : lk_sz k = N) (hk : k < 24 ∧ k ≠ 11 ∧ k ≠ 20) {j : Nat} {v : Int32} (hj : j < N) (hN2 : N < 200) (hdg : decode cc pc = .ok (.iastore, 1))
    (kk : ∀ (H1 : Heap) (locs1 : List Loc), lk_H D lk_cl A H0 (lk_w 25 ad (lk_me τ ad (lk_st M k j v))) H1 locs1 → W p l e R s m args below meth c H1 locs1 cells slots Q (F0 m (pc + 1) ls rest)) : W p l e R s m args below meth c H locs cells slots Q (F0 m pc ls (.int v :: .int (nI j) :: .ref (ad (k + 1)) :: rest)) := by
  obtain ⟨hx, hb, -, -, hts, hown, -, hK⟩ := X
  subst hN
  have he : (lk_w 25 ad (lk_me τ ad M))[k + 1]? = some (ad (k + 1), .inl (τ 0, lk_sz k, .inl (M k))) := by
    rw [lk_w_get (by omega), lk_me_s, if_neg (by omega)]
  refine va_iast hx hb hK h.P h.D h.S (k + 1) 0 he rfl (vp_in_nI hj (by omega)) hdg (fun H1 locs1 hP hD hS => ?_)
  rw [nI_clamp (by omega)] at hP hD
  have e := lk_me_up τ ad M (k := k) hk.1 j v
  rw [if_neg (by omega)] at e
  rw [lk_w_set (by omega), e] at hP hD
  exact kk H1 locs1 ⟨hP, hD, hS⟩
theorem mo_zast (X : lk_X p s m args meth c y cc nL ret D τ) (h : lk_H D lk_cl A H0 (lk_w 25 ad (lk_me τ ad M)) H locs) (k : Nat) (hk : k = 11 ∨ k = 20) {j : Nat} {v : Int32} (hv : v = 0 ∨ v = 1) (hj : j < 4) (hdg : decode cc pc = .ok (.bastore, 1))
    (kk : ∀ (H1 : Heap) (locs1 : List Loc), lk_H D lk_cl A H0 (lk_w 25 ad (lk_me τ ad (lk_st M k j v))) H1 locs1 → W p l e R s m args below meth c H1 locs1 cells slots Q (F0 m (pc + 1) ls rest)) : W p l e R s m args below meth c H locs cells slots Q (F0 m pc ls (.int v :: .int (nI j) :: .ref (ad (k + 1)) :: rest)) := by
  obtain ⟨hx, hb, -, -, hts, hown, -, hK⟩ := X
  have he : (lk_w 25 ad (lk_me τ ad M))[k + 1]? = some (ad (k + 1), .inl (τ 1, 4, .inl (M k))) := by
    rw [lk_w_get (by omega), lk_me_s, if_pos hk]
    rcases hk with rfl | rfl <;> rfl
  refine va_zast hx hb hK h.P h.D h.S (k + 1) 1 he rfl (vp_in_nI hj (by omega)) hdg (fun H1 locs1 hP hD hS => ?_)
  have hn : vp_nar .boolean v = v := by rcases hv with rfl | rfl <;> decide
  rw [nI_clamp (by omega), hn] at hP hD
  have e := lk_me_up τ ad M (k := k) (by omega) j v
  rw [if_pos hk, show lk_sz k = 4 by rcases hk with rfl | rfl <;> rfl] at e
  rw [lk_w_set (by omega), e] at hP hD
  exact kk H1 locs1 ⟨hP, hD, hS⟩
/-- one of the object's three numbers is written -/
theorem mo_put (X : lk_X p s m args meth c y cc nL ret D τ) (hy : y.cls = R_MO) (h : lk_H D lk_cl A H0 (lk_w 25 ad (lk_me τ ad M)) H locs) (k i : Nat) (hki : (k = 0 ∧ i = 2) ∨ (k = 11 ∧ i = 0) ∨ (k = 12 ∧ i = 1)) {v : Int32} (hg : Cond.fieldLink R_MO index "LinkTreeModel" (T_MO k).2.1 (T_MO k).2.2.1 ∈ lk_G) (hdg : decode cc pc = .ok (.putfield index, 3))
    (kk : ∀ (H1 : Heap) (locs1 : List Loc), lk_H D lk_cl A H0 (lk_w 25 ad (lk_me τ ad (lk_st M 24 i v))) H1 locs1 → W p l e R s m args below meth c H1 locs1 cells slots Q (F0 m (pc + 3) ls rest)) : W p l e R s m args below meth c H locs cells slots Q (F0 m pc ls (.int v :: .ref (ad 0) :: rest)) := by
  obtain ⟨hx, hb, -, -, hts, hown, -, hK⟩ := X
  rw [hy] at hown
  have hset : (lk_mf ad M).set k (.int v) = lk_mf ad (lk_st M 24 i v) := by
    rcases hki with ⟨rfl, rfl⟩ | ⟨rfl, rfl⟩ | ⟨rfl, rfl⟩ <;> simp [lk_mf, lk_st_eq]
  have hd : (T_MO k).1 = "LinkTreeModel" ∧ (T_MO k).2.2.2 = false ∧ parseFieldDescriptor (T_MO k).2.2.1 = some .int ∧ k < 27 := by
    rcases hki with ⟨rfl, rfl⟩ | ⟨rfl, rfl⟩ | ⟨rfl, rfl⟩ <;> decide +kernel
  refine va_put (D := D) (ci := 4) (v := .int v) (ty := .int) (C := R_MO) (T := T_MO) (N := 27) hx hb hts gl_MO ty_MO ty_MO_ok nm_MO hown hK h.P h.D h.S 0 (lk_w_get (by omega)) rfl k hd.2.2.2 (hts _ hg) (fun x9 h9 => by rw [hd.1] at h9; exact h9) hd.2.1 hd.2.2.1 rfl rfl (by show k < 27; exact hd.2.2.2) hdg (fun H1 locs1 hP hD hS => ?_)
  rw [lk_w_set (by omega), hset, lk_me_up0] at hP hD
  exact kk H1 locs1 ⟨hP, hD, hS⟩
end MoRows
