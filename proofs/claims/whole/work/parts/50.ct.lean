/-! the class's world: 0 the tree, 1 its nodes, 2 its tasks, 3 the small pages, 4 their array, 5 + p the node of a page (24: nowhere), 30 + p and 55 + p its arrays, 80 + t a task, 84 + t its path -/
def lk_t5 (f : Nat → Int32) (p : Nat) : Nat → Int32 := fun i => if i < 5 then f (5 * p + i) else 0
def lk_t25 (f : Nat → Int32) (t : Nat) : Nat → Int32 := fun i => if i < 25 then f (32 * t + i) else 0
def lk_num (p : Nat) : Int32 := if p < 24 then nI p else -1
def lk_nf (ad : Nat → Nat) (M : lk_M) (p : Nat) : List Value := [.int (lk_num p), .ref (ad (30 + p)), .ref (ad (55 + p)), .int (M 5 p), .int (M 0 p), .int (M 1 p), .int (M 2 p), .int (M 3 p), .int (M 4 p), .int (M 6 p), .int (M 9 p)]
def lk_tf (ad : Nat → Nat) (M : lk_M) (t : Nat) : List Value := [.int (nI t), .ref (ad (84 + t)), .int (M 11 t), .int (M 12 t), .int (M 13 t), .int (M 14 t), .int (M 15 t), .int (M 17 t), .int (M 16 t), .int (M 18 t), .int (M 20 t), .int (M 21 t), .int (M 22 (4 * t)), .int (M 22 (4 * t + 1)), .int (M 22 (4 * t + 2)), .int (M 22 (4 * t + 3))]
def lk_lf (ad : Nat → Nat) (M : lk_M) : List Value := [.ref (ad 1), .ref (ad 29), .ref (ad 2), .ref (ad 3), .int (M 24 0)]
def lk_sf (ad : Nat → Nat) (M : lk_M) : List Value := [.ref (ad 4), .int (M 24 1)]
def lk_ce (τ : Nat → ClassId) (ad : Nat → Nat) (M : lk_M) : Nat → va_E := fun k =>
  if k = 0 then .inr (0, lk_lf ad M) else if k = 1 then .inl (τ 2, 24, .inr (.inr (.inr (.inr (fun j => some (ad (5 + j))))))) else if k = 2 then .inl (τ 3, 4, .inr (.inr (.inr (.inr (fun j => some (ad (80 + j))))))) else if k = 3 then .inr (3, lk_sf ad M) else if k = 4 then .inl (τ 0, 12, .inl (M 10))
  else if k < 30 then .inr (1, lk_nf ad M (k - 5)) else if k < 55 then .inl (τ 0, 5, .inl (lk_t5 (M 7) (k - 30))) else if k < 80 then .inl (τ 0, 5, .inl (lk_t5 (M 8) (k - 55))) else if k < 84 then .inr (2, lk_tf ad M (k - 80)) else .inl (τ 0, 25, .inl (lk_t25 (M 19) (k - 84)))
section Ce
variable {τ : Nat → ClassId} {ad : Nat → Nat} {M : lk_M} {p t : Nat}
theorem lk_ce_n (hp : p < 25) : lk_ce τ ad M (5 + p) = .inr (1, lk_nf ad M p) := by
  unfold lk_ce
  rw [if_neg (by omega), if_neg (by omega), if_neg (by omega), if_neg (by omega), if_neg (by omega), if_pos (by omega), show 5 + p - 5 = p by omega]
theorem lk_ce_k (hp : p < 25) : lk_ce τ ad M (30 + p) = .inl (τ 0, 5, .inl (lk_t5 (M 7) p)) := by
  unfold lk_ce
  rw [if_neg (by omega), if_neg (by omega), if_neg (by omega), if_neg (by omega), if_neg (by omega), if_neg (by omega), if_pos (by omega), show 30 + p - 30 = p by omega]
theorem lk_ce_s (hp : p < 25) : lk_ce τ ad M (55 + p) = .inl (τ 0, 5, .inl (lk_t5 (M 8) p)) := by
  unfold lk_ce
  rw [if_neg (by omega), if_neg (by omega), if_neg (by omega), if_neg (by omega), if_neg (by omega), if_neg (by omega), if_neg (by omega), if_pos (by omega), show 55 + p - 55 = p by omega]
theorem lk_ce_t (ht : t < 4) : lk_ce τ ad M (80 + t) = .inr (2, lk_tf ad M t) := by
  unfold lk_ce
  rw [if_neg (by omega), if_neg (by omega), if_neg (by omega), if_neg (by omega), if_neg (by omega), if_neg (by omega), if_neg (by omega), if_neg (by omega), if_pos (by omega), show 80 + t - 80 = t by omega]
theorem lk_ce_p (ht : t < 4) : lk_ce τ ad M (84 + t) = .inl (τ 0, 25, .inl (lk_t25 (M 19) t)) := by
  unfold lk_ce
  rw [if_neg (by omega), if_neg (by omega), if_neg (by omega), if_neg (by omega), if_neg (by omega), if_neg (by omega), if_neg (by omega), if_neg (by omega), if_neg (by omega), show 84 + t - 84 = t by omega]
theorem lk_ce_cases {j : Nat} (h : j < 88) : j = 0 ∨ j = 1 ∨ j = 2 ∨ j = 3 ∨ j = 4 ∨ (∃ p, p < 25 ∧ j = 5 + p) ∨ (∃ p, p < 25 ∧ j = 30 + p) ∨ (∃ p, p < 25 ∧ j = 55 + p) ∨ (∃ t, t < 4 ∧ j = 80 + t) ∨ (∃ t, t < 4 ∧ j = 84 + t) := by
  by_cases h0 : j < 5
  · omega
  · by_cases h1 : j < 30
    · exact Or.inr (Or.inr (Or.inr (Or.inr (Or.inr (Or.inl ⟨j - 5, by omega, by omega⟩)))))
    · by_cases h2 : j < 55
      · exact Or.inr (Or.inr (Or.inr (Or.inr (Or.inr (Or.inr (Or.inl ⟨j - 30, by omega, by omega⟩))))))
      · by_cases h3 : j < 80
        · exact Or.inr (Or.inr (Or.inr (Or.inr (Or.inr (Or.inr (Or.inr (Or.inl ⟨j - 55, by omega, by omega⟩)))))))
        · by_cases h4 : j < 84
          · exact Or.inr (Or.inr (Or.inr (Or.inr (Or.inr (Or.inr (Or.inr (Or.inr (Or.inl ⟨j - 80, by omega, by omega⟩))))))))
          · exact Or.inr (Or.inr (Or.inr (Or.inr (Or.inr (Or.inr (Or.inr (Or.inr (Or.inr ⟨j - 84, by omega, by omega⟩))))))))
/-- which cell a place of the memory lies in -/
def lk_ow (f i : Nat) : Nat := if f = 24 then (if i = 0 then 0 else if i = 1 then 3 else 99) else if f = 10 then 4 else if f = 7 then 30 + i / 5 else if f = 8 then 55 + i / 5 else if f = 22 then 80 + i / 4 else if f = 19 then 84 + i / 32 else if f = 23 then 99 else if f < 7 ∨ f = 9 then 5 + i else 80 + i
theorem lk_t5_st (σ : lk_M) (f i : Nat) (v : Int32) (g p : Nat) (h : f ≠ g ∨ i / 5 ≠ p) : lk_t5 (lk_st σ f i v g) p = lk_t5 (σ g) p := by
  funext j
  unfold lk_t5
  by_cases hj : j < 5
  · rw [if_pos hj, if_pos hj, lk_st_eq, if_neg (by omega)]
  · rw [if_neg hj, if_neg hj]
theorem lk_t25_st (σ : lk_M) (f i : Nat) (v : Int32) (t : Nat) (h : f ≠ 19 ∨ i / 32 ≠ t) : lk_t25 (lk_st σ f i v 19) t = lk_t25 (σ 19) t := by
  funext j
  unfold lk_t25
  by_cases hj : j < 25
  · rw [if_pos hj, if_pos hj, lk_st_eq, if_neg (by omega)]
  · rw [if_neg hj, if_neg hj]
theorem lk_nf_st {f i : Nat} {v : Int32} (h : ¬ (f < 7 ∨ f = 9) ∨ i ≠ p) : lk_nf ad (lk_st M f i v) p = lk_nf ad M p := by
  have e : ∀ g, (g < 7 ∨ g = 9) → lk_st M f i v g p = M g p := fun g hg => by
    rw [lk_st_eq, if_neg]
    intro z
    rcases h with h | h
    · exact h (by rw [← z.1]; exact hg)
    · exact h z.2.symm
  unfold lk_nf
  rw [e 5 (by decide), e 0 (by decide), e 1 (by decide), e 2 (by decide), e 3 (by decide), e 4 (by decide), e 6 (by decide), e 9 (by decide)]
theorem lk_tf_st {f i : Nat} {v : Int32} (h : (10 < f ∧ f < 19 ∨ f = 20 ∨ f = 21 → i ≠ t) ∧ (f = 22 → i / 4 ≠ t)) : lk_tf ad (lk_st M f i v) t = lk_tf ad M t := by
  have e : ∀ g, (10 < g ∧ g < 19 ∨ g = 20 ∨ g = 21) → lk_st M f i v g t = M g t := fun g hg => by
    rw [lk_st_eq, if_neg]
    intro z
    exact h.1 (by rw [← z.1]; exact hg) z.2.symm
  have e2 : ∀ k, k < 4 → lk_st M f i v 22 (4 * t + k) = M 22 (4 * t + k) := fun k hk => by
    rw [lk_st_eq, if_neg]
    intro z
    exact h.2 z.1.symm (by omega)
  have e3 := e2 0 (by decide)
  rw [Nat.add_zero] at e3
  unfold lk_tf
  rw [e 11 (by decide), e 12 (by decide), e 13 (by decide), e 14 (by decide), e 15 (by decide), e 17 (by decide), e 16 (by decide), e 18 (by decide), e 20 (by decide), e 21 (by decide), e3, e2 1 (by decide), e2 2 (by decide), e2 3 (by decide)]
/-- a cell that the place doesn't lie in -/
theorem lk_ce_st {f i j : Nat} {v : Int32} (hj : j < 88) (h : lk_ow f i ≠ j) (hf : f < 25) : lk_ce τ ad (lk_st M f i v) j = lk_ce τ ad M j := by
  unfold lk_ow at h
  rcases lk_ce_cases hj with rfl | rfl | rfl | rfl | rfl | ⟨p, hp, rfl⟩ | ⟨p, hp, rfl⟩ | ⟨p, hp, rfl⟩ | ⟨t, ht, rfl⟩ | ⟨t, ht, rfl⟩
  · show Sum.inr (0, lk_lf ad (lk_st M f i v)) = Sum.inr (0, lk_lf ad M)
    have : lk_st M f i v 24 0 = M 24 0 := by
      rw [lk_st_eq, if_neg]
      intro z
      rw [if_pos z.1.symm, if_pos z.2.symm] at h
      exact h rfl
    unfold lk_lf
    rw [this]
  · rfl
  · rfl
  · show Sum.inr (3, lk_sf ad (lk_st M f i v)) = Sum.inr (3, lk_sf ad M)
    have : lk_st M f i v 24 1 = M 24 1 := by
      rw [lk_st_eq, if_neg]
      intro z
      rw [if_pos z.1.symm, if_neg (by omega), if_pos z.2.symm] at h
      exact h rfl
    unfold lk_sf
    rw [this]
  · show Sum.inl (τ 0, 12, Sum.inl (lk_st M f i v 10)) = Sum.inl (τ 0, 12, Sum.inl (M 10))
    have : f ≠ 10 := fun z => by
      subst z
      exact h rfl
    have e : lk_st M f i v 10 = M 10 := by
      unfold lk_st
      rw [va_up_ne _ _ (Ne.symm this)]
    rw [e]
  · rw [lk_ce_n hp, lk_ce_n hp, lk_nf_st]
    by_cases h2 : f < 7 ∨ f = 9
    · right
      intro z
      subst z
      rw [if_neg (by omega), if_neg (by omega), if_neg (by omega), if_neg (by omega), if_neg (by omega), if_neg (by omega), if_neg (by omega), if_pos h2] at h
      exact h rfl
    · exact Or.inl h2
  · rw [lk_ce_k hp, lk_ce_k hp, lk_t5_st]
    by_cases h2 : f = 7
    · right
      intro z
      rw [if_neg (by omega), if_neg (by omega), if_pos h2] at h
      omega
    · exact Or.inl h2
  · rw [lk_ce_s hp, lk_ce_s hp, lk_t5_st]
    by_cases h2 : f = 8
    · right
      intro z
      rw [if_neg (by omega), if_neg (by omega), if_neg (by omega), if_pos h2] at h
      omega
    · exact Or.inl h2
  · rw [lk_ce_t ht, lk_ce_t ht, lk_tf_st]
    refine ⟨fun z1 z2 => ?_, fun z1 z2 => ?_⟩
    · rw [if_neg (by omega), if_neg (by omega), if_neg (by omega), if_neg (by omega), if_neg (by omega), if_neg (by omega), if_neg (by omega), if_neg (by omega)] at h
      omega
    · rw [if_neg (by omega), if_neg (by omega), if_neg (by omega), if_neg (by omega), if_pos z1] at h
      omega
  · rw [lk_ce_p ht, lk_ce_p ht, lk_t25_st]
    by_cases h2 : f = 19
    · right
      intro z
      rw [if_neg (by omega), if_neg (by omega), if_neg (by omega), if_neg (by omega), if_neg (by omega), if_pos h2] at h
      omega
    · exact Or.inl h2
/-- a store: the world with the one cell changed is the world of the new memory -/
theorem lk_ce_up {f i q0 : Nat} {v : Int32} {x : va_E} (hq : lk_ow f i = q0) (hf : f < 25) (hx : lk_ce τ ad (lk_st M f i v) q0 = x) : lk_w 88 ad (va_up (lk_ce τ ad M) q0 x) = lk_w 88 ad (lk_ce τ ad (lk_st M f i v)) := by
  apply lk_w_congr
  intro j hj
  by_cases e : j = q0
  · subst e; rw [va_up_self, hx]
  · rw [va_up_ne _ _ e, lk_ce_st hj (by rw [hq]; exact fun z => e z.symm) hf]
end Ce
section CtRows
variable {p : Program} {l : Launch} {e : Env} {R : Room} {s : State} {m : MethodId} {args : Array Value} {below : List Frame} {meth : Method} {c : Code} {H : Heap} {locs : List Loc} {cells slots : Nat} {Q : State → Prop}
variable {D : va_G} {τ : Nat → ClassId} {ad : Nat → Nat} {y : MethodName} {cc : ByteArray} {nL index : Nat} {ret : Option FieldType} {A : Nat → Prop} {H0 : Heap} {pc : Nat} {ls : Array Slot} {M : lk_M} {rest : List Value}
theorem ct_get (X : lk_X p s m args meth c y cc nL ret D τ) (h : lk_H D lk_cl A H0 (lk_w 88 ad (lk_ce τ ad M)) H locs) {q0 ci N : Nat} {C : String} {T : u_T} {fs : List Value} (hq : q0 < 88) (he : lk_ce τ ad M q0 = .inr (ci, fs)) (hc : lk_cl[ci]? = some (C, T, N)) (hgl : ∀ w ∈ u_ws C T N, w ∈ lk_G) (k : Nat) (hk : k < N) {v : Value} (hv : fs[k]? = some v) (hg : Cond.fieldLink y.cls index C (T k).2.1 (T k).2.2.1 ∈ lk_G) (hd : (T k).1 = C) (hdg : decode cc pc = .ok (.getfield index, 3))
    (kk : W p l e R s m args below meth c H locs cells slots Q (F0 m (pc + 3) ls (v :: rest))) : W p l e R s m args below meth c H locs cells slots Q (F0 m pc ls (.ref (ad q0) :: rest)) := by
  obtain ⟨hx, hb, -, -, hts, hown, -, hK⟩ := X
  exact va_get (D := D) (ci := ci) (C := C) (T := T) (N := N) hx hb hts hgl hown hK h.P q0 (by rw [lk_w_get hq, he]) hc k hk (hts _ hg) (fun x9 h9 => by rw [hd] at h9; exact h9) hv hdg kk
theorem ct_put (X : lk_X p s m args meth c y cc nL ret D τ) (h : lk_H D lk_cl A H0 (lk_w 88 ad (lk_ce τ ad M)) H locs) {q0 ci N f i : Nat} {C : String} {T : u_T} {ty0 : Nat → FieldType} {fs : List Value} (hq : q0 < 88) (he : lk_ce τ ad M q0 = .inr (ci, fs)) (hc : lk_cl[ci]? = some (C, T, N)) (hgl : ∀ w ∈ u_ws C T N, w ∈ lk_G) (hty : ∀ k, k < N → parseFieldDescriptor (T k).2.2.1 = some (ty0 k)) (hnm : ∀ a, a < N → ∀ b, b < N → a ≠ b → (T a).2.1 ≠ (T b).2.1) (k : Nat) (hk : k < N) (ty : FieldType) {v : Int32} (hg : Cond.fieldLink y.cls index C (T k).2.1 (T k).2.2.1 ∈ lk_G) (hd : (T k).1 = C ∧ (T k).2.2.2 = false ∧ parseFieldDescriptor (T k).2.2.1 = some ty) (hn : narrow ty (.int v) = .int v ∧ fits ty (.int v) = true) (hl : k < fs.length) (ho : lk_ow f i = q0) (hf : f < 25) (hset : lk_ce τ ad (lk_st M f i v) q0 = .inr (ci, fs.set k (.int v))) (hdg : decode cc pc = .ok (.putfield index, 3))
    (kk : ∀ (H1 : Heap) (locs1 : List Loc), lk_H D lk_cl A H0 (lk_w 88 ad (lk_ce τ ad (lk_st M f i v))) H1 locs1 → W p l e R s m args below meth c H1 locs1 cells slots Q (F0 m (pc + 3) ls rest)) : W p l e R s m args below meth c H locs cells slots Q (F0 m pc ls (.int v :: .ref (ad q0) :: rest)) := by
  obtain ⟨hx, hb, -, -, hts, hown, -, hK⟩ := X
  refine va_put (D := D) (ci := ci) (v := .int v) (ty := ty) (C := C) (T := T) (N := N) hx hb hts hgl ty0 hty hnm hown hK h.P h.D h.S q0 (by rw [lk_w_get hq, he]) hc k hk (hts _ hg) (fun x9 h9 => by rw [hd.1] at h9; exact h9) hd.2.1 hd.2.2 hn.1 hn.2 hl hdg (fun H1 locs1 hP hD hS => ?_)
  rw [lk_w_set hq, lk_ce_up ho hf hset] at hP hD
  exact kk H1 locs1 ⟨hP, hD, hS⟩
theorem ct_ald (X : lk_X p s m args meth c y cc nL ret D τ) (h : lk_H D lk_cl A H0 (lk_w 88 ad (lk_ce τ ad M)) H locs) {q0 n : Nat} {g : Nat → Int32} (hq : q0 < 88) (he : lk_ce τ ad M q0 = .inl (τ 0, n, .inl g)) {j : Nat} (hj : j < n) (hn : n < 200) {v : Int32} (hv : g j = v) (hdg : decode cc pc = .ok (.iaload, 1))
    (kk : W p l e R s m args below meth c H locs cells slots Q (F0 m (pc + 1) ls (.int v :: rest))) : W p l e R s m args below meth c H locs cells slots Q (F0 m pc ls (.int (nI j) :: .ref (ad q0) :: rest)) := by
  obtain ⟨hx, hb, -, -, hts, hown, -, hK⟩ := X
  refine va_iald hx hb hK h.P q0 0 (by rw [lk_w_get hq, he]) rfl (vp_in_nI hj (by omega)) hdg ?_
  rw [nI_clamp (by omega), hv]
  exact kk
theorem ct_ast (X : lk_X p s m args meth c y cc nL ret D τ) (h : lk_H D lk_cl A H0 (lk_w 88 ad (lk_ce τ ad M)) H locs) {q0 n f i : Nat} {g : Nat → Int32} (hq : q0 < 88) (he : lk_ce τ ad M q0 = .inl (τ 0, n, .inl g)) {j : Nat} {v : Int32} (hj : j < n) (hn : n < 200) (ho : lk_ow f i = q0) (hf : f < 25) (hset : lk_ce τ ad (lk_st M f i v) q0 = .inl (τ 0, n, .inl (upd g j v))) (hdg : decode cc pc = .ok (.iastore, 1))
    (kk : ∀ (H1 : Heap) (locs1 : List Loc), lk_H D lk_cl A H0 (lk_w 88 ad (lk_ce τ ad (lk_st M f i v))) H1 locs1 → W p l e R s m args below meth c H1 locs1 cells slots Q (F0 m (pc + 1) ls rest)) : W p l e R s m args below meth c H locs cells slots Q (F0 m pc ls (.int v :: .int (nI j) :: .ref (ad q0) :: rest)) := by
  obtain ⟨hx, hb, -, -, hts, hown, -, hK⟩ := X
  refine va_iast hx hb hK h.P h.D h.S q0 0 (by rw [lk_w_get hq, he]) rfl (vp_in_nI hj (by omega)) hdg (fun H1 locs1 hP hD hS => ?_)
  rw [nI_clamp (by omega), lk_w_set hq, lk_ce_up ho hf hset] at hP hD
  exact kk H1 locs1 ⟨hP, hD, hS⟩
theorem lk_t5_up {f : Nat → Int32} {p j : Nat} {v : Int32} (hj : j < 5) : lk_t5 (upd f (5 * p + j) v) p = upd (lk_t5 f p) j v := by
  funext i
  unfold lk_t5 upd
  by_cases h : i < 5
  · simp only [h, if_true]
    by_cases h2 : i = j
    · rw [if_pos (by omega), if_pos h2]
    · rw [if_neg (by omega), if_neg h2]
  · simp only [h, if_false]
    rw [if_neg (by omega)]
theorem lk_t25_up {f : Nat → Int32} {t j : Nat} {v : Int32} (hj : j < 25) : lk_t25 (upd f (32 * t + j) v) t = upd (lk_t25 f t) j v := by
  funext i
  unfold lk_t25 upd
  by_cases h : i < 25
  · simp only [h, if_true]
    by_cases h2 : i = j
    · rw [if_pos (by omega), if_pos h2]
    · rw [if_neg (by omega), if_neg h2]
  · simp only [h, if_false]
    rw [if_neg (by omega)]
theorem lk_st_fun {σ : lk_M} {a i : Nat} {v : Int32} : lk_st σ a i v a = upd (σ a) i v := by
  unfold lk_st; rw [va_up_self]
/-- a node's keys (7) and seconds (8), a task's path, the small pages -/
theorem nd_ald7 (X : lk_X p s m args meth c y cc nL ret D τ) (h : lk_H D lk_cl A H0 (lk_w 88 ad (lk_ce τ ad M)) H locs) {q j : Nat} (hq : q < 25) (hj : j < 5) (hdg : decode cc pc = .ok (.iaload, 1)) (kk : W p l e R s m args below meth c H locs cells slots Q (F0 m (pc + 1) ls (.int (M 7 (5 * q + j)) :: rest))) : W p l e R s m args below meth c H locs cells slots Q (F0 m pc ls (.int (nI j) :: .ref (ad (30 + q)) :: rest)) :=
  ct_ald X h (by omega) (lk_ce_k hq) hj (by decide) (by unfold lk_t5; rw [if_pos hj]) hdg kk
theorem nd_ald8 (X : lk_X p s m args meth c y cc nL ret D τ) (h : lk_H D lk_cl A H0 (lk_w 88 ad (lk_ce τ ad M)) H locs) {q j : Nat} (hq : q < 25) (hj : j < 5) (hdg : decode cc pc = .ok (.iaload, 1)) (kk : W p l e R s m args below meth c H locs cells slots Q (F0 m (pc + 1) ls (.int (M 8 (5 * q + j)) :: rest))) : W p l e R s m args below meth c H locs cells slots Q (F0 m pc ls (.int (nI j) :: .ref (ad (55 + q)) :: rest)) :=
  ct_ald X h (by omega) (lk_ce_s hq) hj (by decide) (by unfold lk_t5; rw [if_pos hj]) hdg kk
theorem ta_ald (X : lk_X p s m args meth c y cc nL ret D τ) (h : lk_H D lk_cl A H0 (lk_w 88 ad (lk_ce τ ad M)) H locs) {t j : Nat} (ht : t < 4) (hj : j < 25) (hdg : decode cc pc = .ok (.iaload, 1)) (kk : W p l e R s m args below meth c H locs cells slots Q (F0 m (pc + 1) ls (.int (M 19 (32 * t + j)) :: rest))) : W p l e R s m args below meth c H locs cells slots Q (F0 m pc ls (.int (nI j) :: .ref (ad (84 + t)) :: rest)) :=
  ct_ald X h (by omega) (lk_ce_p ht) hj (by decide) (by unfold lk_t25; rw [if_pos hj]) hdg kk
theorem sp_ald (X : lk_X p s m args meth c y cc nL ret D τ) (h : lk_H D lk_cl A H0 (lk_w 88 ad (lk_ce τ ad M)) H locs) {j : Nat} (hj : j < 12) (hdg : decode cc pc = .ok (.iaload, 1)) (kk : W p l e R s m args below meth c H locs cells slots Q (F0 m (pc + 1) ls (.int (M 10 j) :: rest))) : W p l e R s m args below meth c H locs cells slots Q (F0 m pc ls (.int (nI j) :: .ref (ad 4) :: rest)) :=
  ct_ald X h (q0 := 4) (by omega) rfl hj (by decide) rfl hdg kk
theorem nd_ast7 (X : lk_X p s m args meth c y cc nL ret D τ) (h : lk_H D lk_cl A H0 (lk_w 88 ad (lk_ce τ ad M)) H locs) {q j : Nat} {v : Int32} (hq : q < 25) (hj : j < 5) (hdg : decode cc pc = .ok (.iastore, 1)) (kk : ∀ (H1 : Heap) (locs1 : List Loc), lk_H D lk_cl A H0 (lk_w 88 ad (lk_ce τ ad (lk_st M 7 (5 * q + j) v))) H1 locs1 → W p l e R s m args below meth c H1 locs1 cells slots Q (F0 m (pc + 1) ls rest)) : W p l e R s m args below meth c H locs cells slots Q (F0 m pc ls (.int v :: .int (nI j) :: .ref (ad (30 + q)) :: rest)) :=
  ct_ast X h (by omega) (lk_ce_k hq) hj (by decide) (by show 30 + (5 * q + j) / 5 = 30 + q; omega) (by decide) (by rw [lk_ce_k hq, lk_st_fun, lk_t5_up hj]) hdg kk
theorem nd_ast8 (X : lk_X p s m args meth c y cc nL ret D τ) (h : lk_H D lk_cl A H0 (lk_w 88 ad (lk_ce τ ad M)) H locs) {q j : Nat} {v : Int32} (hq : q < 25) (hj : j < 5) (hdg : decode cc pc = .ok (.iastore, 1)) (kk : ∀ (H1 : Heap) (locs1 : List Loc), lk_H D lk_cl A H0 (lk_w 88 ad (lk_ce τ ad (lk_st M 8 (5 * q + j) v))) H1 locs1 → W p l e R s m args below meth c H1 locs1 cells slots Q (F0 m (pc + 1) ls rest)) : W p l e R s m args below meth c H locs cells slots Q (F0 m pc ls (.int v :: .int (nI j) :: .ref (ad (55 + q)) :: rest)) :=
  ct_ast X h (by omega) (lk_ce_s hq) hj (by decide) (by show 55 + (5 * q + j) / 5 = 55 + q; omega) (by decide) (by rw [lk_ce_s hq, lk_st_fun, lk_t5_up hj]) hdg kk
theorem ta_ast (X : lk_X p s m args meth c y cc nL ret D τ) (h : lk_H D lk_cl A H0 (lk_w 88 ad (lk_ce τ ad M)) H locs) {t j : Nat} {v : Int32} (ht : t < 4) (hj : j < 25) (hdg : decode cc pc = .ok (.iastore, 1)) (kk : ∀ (H1 : Heap) (locs1 : List Loc), lk_H D lk_cl A H0 (lk_w 88 ad (lk_ce τ ad (lk_st M 19 (32 * t + j) v))) H1 locs1 → W p l e R s m args below meth c H1 locs1 cells slots Q (F0 m (pc + 1) ls rest)) : W p l e R s m args below meth c H locs cells slots Q (F0 m pc ls (.int v :: .int (nI j) :: .ref (ad (84 + t)) :: rest)) :=
  ct_ast X h (by omega) (lk_ce_p ht) hj (by decide) (by show 84 + (32 * t + j) / 32 = 84 + t; omega) (by decide) (by rw [lk_ce_p ht, lk_st_fun, lk_t25_up hj]) hdg kk
theorem sp_ast (X : lk_X p s m args meth c y cc nL ret D τ) (h : lk_H D lk_cl A H0 (lk_w 88 ad (lk_ce τ ad M)) H locs) {j : Nat} {v : Int32} (hj : j < 12) (hdg : decode cc pc = .ok (.iastore, 1)) (kk : ∀ (H1 : Heap) (locs1 : List Loc), lk_H D lk_cl A H0 (lk_w 88 ad (lk_ce τ ad (lk_st M 10 j v))) H1 locs1 → W p l e R s m args below meth c H1 locs1 cells slots Q (F0 m (pc + 1) ls rest)) : W p l e R s m args below meth c H locs cells slots Q (F0 m pc ls (.int v :: .int (nI j) :: .ref (ad 4) :: rest)) :=
  ct_ast X h (q0 := 4) (by omega) rfl hj (by decide) rfl (by decide) (by show Sum.inl (τ 0, 12, Sum.inl (lk_st M 10 j v 10)) = _; rw [lk_st_fun]) hdg kk
/-- the arrays of nodes and tasks -/
theorem lt_ndq (X : lk_X p s m args meth c y cc nL ret D τ) (h : lk_H D lk_cl A H0 (lk_w 88 ad (lk_ce τ ad M)) H locs) {j : Nat} (hj : j < 24) (hdg : decode cc pc = .ok (.aaload, 1)) (kk : W p l e R s m args below meth c H locs cells slots Q (F0 m (pc + 1) ls (.ref (ad (5 + j)) :: rest))) : W p l e R s m args below meth c H locs cells slots Q (F0 m pc ls (.int (nI j) :: .ref (ad 1) :: rest)) := by
  obtain ⟨hx, hb, -, -, hts, hown, -, hK⟩ := X
  refine va_aldq (C := "LinkTree$Node") (n := 24) (f := fun j => some (ad (5 + j))) (cA := τ 2) hx hb hK h.P 1 2 (by rw [lk_w_get (by omega)]; rfl) rfl (vp_in_nI hj (by omega)) hdg ?_
  rw [nI_clamp (by omega)]
  exact kk
theorem lt_taq (X : lk_X p s m args meth c y cc nL ret D τ) (h : lk_H D lk_cl A H0 (lk_w 88 ad (lk_ce τ ad M)) H locs) {j : Nat} (hj : j < 4) (hdg : decode cc pc = .ok (.aaload, 1)) (kk : W p l e R s m args below meth c H locs cells slots Q (F0 m (pc + 1) ls (.ref (ad (80 + j)) :: rest))) : W p l e R s m args below meth c H locs cells slots Q (F0 m pc ls (.int (nI j) :: .ref (ad 2) :: rest)) := by
  obtain ⟨hx, hb, -, -, hts, hown, -, hK⟩ := X
  refine va_aldq (C := "LinkTree$Task") (n := 4) (f := fun j => some (ad (80 + j))) (cA := τ 3) hx hb hK h.P 2 3 (by rw [lk_w_get (by omega)]; rfl) rfl (vp_in_nI hj (by omega)) hdg ?_
  rw [nI_clamp (by omega)]
  exact kk
theorem ct_alen (X : lk_X p s m args meth c y cc nL ret D τ) (h : lk_H D lk_cl A H0 (lk_w 88 ad (lk_ce τ ad M)) H locs) {q0 n : Nat} {g : Nat → Int32} (hq : q0 < 88) (he : lk_ce τ ad M q0 = .inl (τ 0, n, .inl g)) (hdg : decode cc pc = .ok (.arraylength, 1)) (kk : W p l e R s m args below meth c H locs cells slots Q (F0 m (pc + 1) ls (.int (nI n) :: rest))) : W p l e R s m args below meth c H locs cells slots Q (F0 m pc ls (.ref (ad q0) :: rest)) := by
  obtain ⟨hx, hb, -, -, hts, hown, -, hK⟩ := X
  exact va_alen (x := (n, .inl g)) (cA := τ 0) (ty := .int) hx hb hK h.P q0 0 (by rw [lk_w_get hq, he]) rfl rfl hdg kk
end CtRows
