/-! how a step of the task t leaves the others -/
def lk_same (M M' : lk_M) (t : Nat) : Prop := ∀ u, u < 4 → u ≠ t → (∀ f, 11 ≤ f → f ≤ 18 → M' f u = M f u) ∧ M' 20 u = M 20 u ∧ ∀ i, i < 32 → M' 19 (32 * u + i) = M 19 (32 * u + i)
/-- pages: a node stays one of the same level, or is dead and awaits every other busy task (or is free, if there is none); who is awaited on a dead page is awaited there still -/
def lk_pg (M M' : lk_M) (t : Nat) : Prop := ∀ x, x < 24 → (M 0 x = 1 → (M' 0 x = 1 ∧ M' 1 x = M 1 x) ∨ (∀ u, u < 4 → u ≠ t → M 11 u = 1 → M' 0 x = 2 ∧ M' 9 x &&& lk_bit u ≠ 0)) ∧ (M 0 x = 2 → ∀ u, u < 4 → u ≠ t → M 11 u = 1 → M 9 x &&& lk_bit u ≠ 0 → M' 0 x = 2 ∧ M' 9 x &&& lk_bit u ≠ 0)
/-- a page that another task posts stays as it is, and no entry's child -/
def lk_ps (M M' : lk_M) (t : Nat) : Prop := ∀ u, u < 4 → u ≠ t → M 11 u = 1 → M 12 u = 4 → ∀ q, q < 24 → M 18 u = nI q → M 0 q = 1 → lk_nc M q → M 2 q = M 15 u → M' 0 q = 1 ∧ M' 2 q = M 2 q ∧ lk_nc M' q
def lk_Ev (M M' : lk_M) (t : Nat) : Prop := lk_same M M' t ∧ lk_pg M M' t ∧ lk_ps M M' t
theorem lk_al_ev {M M' : lk_M} {t u x : Nat} (h : lk_pg M M' t) (hx : x < 24) (hu : u < 4) (hut : u ≠ t) (hb : M 11 u = 1) (ha : lk_al M u x) : lk_al M' u x := by
  obtain ⟨h1, h2⟩ := h x hx
  rcases ha with ha | ⟨ha, hb2⟩
  · rcases h1 ha with ⟨h3, -⟩ | h4
    · exact Or.inl h3
    · exact Or.inr (h4 u hu hut hb)
  · exact Or.inr (h2 ha u hu hut hb hb2)
theorem lk_TK_ev {M M' : lk_M} {t u : Nat} (h : lk_Ev M M' t) (hu : u < 4) (hut : u ≠ t) (hb : M 11 u = 1) (hk : lk_TK M u) : lk_TK M' u := by
  obtain ⟨hs, hp, hq⟩ := h
  obtain ⟨s1, s2, s3⟩ := hs u hu hut
  have e12 := s1 12 (by decide) (by decide)
  have e13 := s1 13 (by decide) (by decide)
  have e14 := s1 14 (by decide) (by decide)
  have e15 := s1 15 (by decide) (by decide)
  have e16 := s1 16 (by decide) (by decide)
  have e18 := s1 18 (by decide) (by decide)
  obtain ⟨k1, k2, k3, k4, ⟨x, hx, k5, k6, k7⟩, k8, k9, k10, k11, k12⟩ := hk
  refine ⟨by rw [e12]; exact k1, by rw [e13]; exact k2, by rw [e15]; exact k3, by rw [e16]; exact k4, ⟨x, hx, by rw [e14]; exact k5, lk_al_ev hp hx hu hut hb k6, ?_⟩, ?_, by rw [e12, e16]; exact k9, by rw [e12, e13]; exact k10, ?_, ?_⟩
  · rw [e13, e16]
    intro z1 z2
    obtain ⟨h1, h2⟩ := hp x hx
    rcases k6 with k6 | ⟨k6, k6b⟩
    · rcases h1 k6 with ⟨-, h4⟩ | h3
      · rw [h4]; exact k7 z1 k6
      · rw [(h3 u hu hut hb).1] at z2; exact absurd z2 (by decide)
    · rw [(h2 k6 u hu hut hb k6b).1] at z2
      exact absurd z2 (by decide)
  · intro i hi
    rw [s3 i hi]
    rcases k8 i hi with z | ⟨y, hy, z1, z2⟩
    · exact Or.inl z
    · exact Or.inr ⟨y, hy, z1, lk_al_ev hp hy hu hut hb z2⟩
  · rw [e12, e13, e16, e18]; exact k11
  · rw [e12]
    intro z
    obtain ⟨w0, q, hq1, hq2, hq3, hq4, hq5, hq6⟩ := k12 z
    obtain ⟨r1, r2, r3⟩ := hq u hu hut hb z q hq1 hq2 hq3 hq6 hq5
    refine ⟨by rw [e16]; exact w0, q, hq1, by rw [e18]; exact hq2, r1, ?_, by rw [r2, e15]; exact hq5, r3⟩
    rw [e16]
    rcases (hp q hq1).1 hq3 with ⟨-, h4⟩ | h4
    · rw [h4]; exact hq4
    · have h4 := (h4 u hu hut hb).1
      rw [r1] at h4; exact absurd h4 (by decide)
/-- the tree's side of the invariant -/
def lk_TI (M : lk_M) : Prop := (∃ rt, M 24 0 = nI rt ∧ lk_TR M rt) ∧ lk_N4 M ∧ lk_QU M ∧ lk_AW M ∧ lk_KD M
theorem lk_Inv_TI {M : lk_M} (h : lk_Inv M) : lk_TI M := ⟨h.1, h.2.1, h.2.2.1, h.2.2.2.2.1, h.2.2.2.2.2.1⟩
theorem lk_Inv_step {M M' : lk_M} {t : Nat} (h : lk_Inv M) (ht : t < 4) (hev : lk_Ev M M' t) (hti : lk_TI M') (how : lk_OW M') (hbu : (M' 11 t = 0 ∨ M' 11 t = 1) ∧ (M' 20 t = 0 ∨ M' 20 t = 1)) (htk : M' 11 t = 1 → lk_TK M' t) (hp2 : M' 11 t = 1 → M' 12 t = 4 → ∀ u, u < 4 → u ≠ t → M 11 u = 1 → M 12 u = 4 → M' 18 t ≠ M 18 u) : lk_Inv M' := by
  obtain ⟨-, -, -, -, -, -, b1, k1, p1⟩ := h
  obtain ⟨t1, t2, t3, t4, t5⟩ := hti
  have hs := hev.1
  have e11 : ∀ u, u < 4 → u ≠ t → M' 11 u = M 11 u := fun u hu hn => (hs u hu hn).1 11 (by decide) (by decide)
  have e12 : ∀ u, u < 4 → u ≠ t → M' 12 u = M 12 u := fun u hu hn => (hs u hu hn).1 12 (by decide) (by decide)
  have e18 : ∀ u, u < 4 → u ≠ t → M' 18 u = M 18 u := fun u hu hn => (hs u hu hn).1 18 (by decide) (by decide)
  refine ⟨t1, t2, t3, how, t4, t5, ?_, ?_, ?_⟩
  · intro u hu
    by_cases e : u = t
    · rw [e]; exact hbu
    · rw [e11 u hu e, (hs u hu e).2.1]; exact b1 u hu
  · intro u hu hb
    by_cases e : u = t
    · rw [e] at hb ⊢; exact htk hb
    · rw [e11 u hu e] at hb
      exact lk_TK_ev hev hu e hb (k1 u hu hb)
  · intro u v hu hv huv bu bv ou ov
    by_cases e : u = t
    · subst e
      have hn : v ≠ u := fun z => huv z.symm
      rw [e11 v hv hn] at bv
      rw [e12 v hv hn] at ov
      rw [e18 v hv hn]
      exact hp2 bu ou v hv hn bv ov
    · rw [e11 u hu e] at bu
      rw [e12 u hu e] at ou
      rw [e18 u hu e]
      by_cases e2 : v = t
      · subst e2
        exact fun z => hp2 bv ov u hu e bu ou z.symm
      · rw [e11 v hv e2] at bv
        rw [e12 v hv e2] at ov
        rw [e18 v hv e2]
        exact p1 u v hu hv huv bu bv ou ov
/-- a step that changes nothing of the pages but who holds them -/
def lk_pq (M M' : lk_M) : Prop := (∀ f, f < 6 → M' f = M f) ∧ M' 7 = M 7 ∧ M' 8 = M 8 ∧ M' 9 = M 9 ∧ M' 10 = M 10 ∧ M' 24 0 = M 24 0 ∧ M' 24 1 = M 24 1
theorem lk_pq_TI {M M' : lk_M} (e : lk_pq M M') (h : lk_TI M) : lk_TI M' := by
  obtain ⟨e0, e7, e8, e9, e10, er, eq⟩ := e
  obtain ⟨⟨rt, h1, h2⟩, h3, h4, h5, h6⟩ := h
  have z0 := e0 0 (by decide)
  have z1 := e0 1 (by decide)
  have z2 := e0 2 (by decide)
  have z3 := e0 3 (by decide)
  have z4 := e0 4 (by decide)
  have z5 := e0 5 (by decide)
  refine ⟨⟨rt, by rw [er]; exact h1, ?_⟩, ?_, ?_, ?_, ?_⟩
  · unfold lk_TR lk_zi lk_zf at h2 ⊢
    rw [z0, z1, z2, z3, z4, z5, e7, e8]; exact h2
  · unfold lk_N4 at h3 ⊢; rw [z0, z5]; exact h3
  · unfold lk_QU at h4 ⊢; rw [z0, e10, eq]; exact h4
  · unfold lk_AW at h5 ⊢; rw [z0, e9]; exact h5
  · unfold lk_KD at h6 ⊢; rw [z0]; exact h6
theorem lk_nc_of {M M' : lk_M} (e : ∀ f, f < 6 → M' f = M f) (e8 : M' 8 = M 8) {q : Nat} (h : lk_nc M q) : lk_nc M' q := by
  unfold lk_nc lk_zi lk_zf at h ⊢
  rw [e 0 (by decide), e 1 (by decide), e 5 (by decide), e8]
  exact h
theorem lk_pq_Ev {M M' : lk_M} {t : Nat} (e : lk_pq M M') (hs : lk_same M M' t) : lk_Ev M M' t := by
  obtain ⟨e0, e7, e8, e9, e10, er, eq⟩ := e
  refine ⟨hs, fun x hx => ⟨fun z => Or.inl ⟨?_, ?_⟩, fun z u _ _ _ w => ⟨?_, ?_⟩⟩, fun u _ _ _ _ q _ _ z1 z2 _ => ⟨?_, ?_, lk_nc_of e0 e8 z2⟩⟩
  · rw [e0 0 (by decide)]; exact z
  · rw [e0 1 (by decide)]
  · rw [e0 0 (by decide)]; exact z
  · rw [e9]; exact w
  · rw [e0 0 (by decide)]; exact z1
  · rw [e0 2 (by decide)]
