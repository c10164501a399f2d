/-! how a step of the task t leaves the others -/
def lk_same (M M' : lk_M) (t : Nat) : Prop := ∀ u, u < 4 → u ≠ t → (∀ f, 11 ≤ f → f ≤ 18 → M' f u = M f u) ∧ M' 20 u = M 20 u ∧ ∀ i, i < 32 → M' 19 (32 * u + i) = M 19 (32 * u + i)
/-- pages: a node stays one of the same level or is dead and awaits every other busy task; who is awaited on a dead page is awaited there still -/
def lk_pg (M M' : lk_M) (t : Nat) : Prop := ∀ x, x < 24 → (M 0 x = 1 → (M' 0 x = 1 ∧ M' 1 x = M 1 x) ∨ (M' 0 x = 2 ∧ ∀ u, u < 4 → u ≠ t → M 11 u = 1 → M' 9 x &&& lk_bit u ≠ 0)) ∧ (M 0 x = 2 → ∀ u, u < 4 → u ≠ t → M 11 u = 1 → M 9 x &&& lk_bit u ≠ 0 → M' 0 x = 2 ∧ M' 9 x &&& lk_bit u ≠ 0)
/-- a page that another task posts stays as it is, and no entry's child -/
def lk_ps (M M' : lk_M) (t : Nat) : Prop := ∀ u, u < 4 → u ≠ t → M 11 u = 1 → M 12 u = 4 → ∀ q, q < 24 → M 18 u = nI q → M 0 q = 1 → lk_nc M q → M 2 q = M 15 u → M' 0 q = 1 ∧ M' 2 q = M 2 q ∧ lk_nc M' q
def lk_Ev (M M' : lk_M) (t : Nat) : Prop := lk_same M M' t ∧ lk_pg M M' t ∧ lk_ps M M' t
theorem lk_al_ev {M M' : lk_M} {t u x : Nat} (h : lk_pg M M' t) (hx : x < 24) (hu : u < 4) (hut : u ≠ t) (hb : M 11 u = 1) (ha : lk_al M u x) : lk_al M' u x := by
  obtain ⟨h1, h2⟩ := h x hx
  rcases ha with ha | ⟨ha, hb2⟩
  · rcases h1 ha with ⟨h3, -⟩ | ⟨h3, h4⟩
    · exact Or.inl h3
    · exact Or.inr ⟨h3, h4 u hu hut hb⟩
  · exact Or.inr (h2 ha u hu hut hb hb2)
theorem lk_TK_ev {M M' : lk_M} {t u : Nat} (h : lk_Ev M M' t) (hu : u < 4) (hut : u ≠ t) (hb : M 11 u = 1) (hk : lk_TK M u) : lk_TK M' u := by
  obtain ⟨hs, hp, hq⟩ := h
  obtain ⟨s1, s2, s3⟩ := hs u hu hut
  have e12 := s1 12 (by decide) (by decide)
  have e13 := s1 13 (by decide) (by decide)
  have e14 := s1 14 (by decide) (by decide)
  have e15 := s1 15 (by decide) (by decide)
  have e16 := s1 16 (by decide) (by decide)
  have e18 := s1 18 (by decide) (by decide)
  obtain ⟨k1, k2, k3, k4, ⟨x, hx, k5, k6, k7⟩, k8, k9, k10, k11, k12⟩ := hk
  refine ⟨by rw [e12]; exact k1, by rw [e13]; exact k2, by rw [e15]; exact k3, by rw [e16]; exact k4, ⟨x, hx, by rw [e14]; exact k5, lk_al_ev hp hx hu hut hb k6, ?_⟩, ?_, by rw [e12, e16]; exact k9, by rw [e12, e13]; exact k10, ?_, ?_⟩
  · rw [e13, e16]
    intro z1 z2
    obtain ⟨h1, h2⟩ := hp x hx
    rcases k6 with k6 | ⟨k6, k6b⟩
    · rcases h1 k6 with ⟨-, h4⟩ | ⟨h3, -⟩
      · rw [h4]; exact k7 z1 k6
      · rw [h3] at z2; exact absurd z2 (by decide)
    · rw [(h2 k6 u hu hut hb k6b).1] at z2
      exact absurd z2 (by decide)
  · intro i hi
    rw [s3 i hi]
    rcases k8 i hi with z | ⟨y, hy, z1, z2⟩
    · exact Or.inl z
    · exact Or.inr ⟨y, hy, z1, lk_al_ev hp hy hu hut hb z2⟩
  · rw [e12, e13, e16, e18]; exact k11
  · rw [e12]
    intro z
    obtain ⟨w0, q, hq1, hq2, hq3, hq4, hq5, hq6⟩ := k12 z
    obtain ⟨r1, r2, r3⟩ := hq u hu hut hb z q hq1 hq2 hq3 hq6 hq5
    refine ⟨by rw [e16]; exact w0, q, hq1, by rw [e18]; exact hq2, r1, ?_, by rw [r2, e15]; exact hq5, r3⟩
    rw [e16]
    rcases (hp q hq1).1 hq3 with ⟨-, h4⟩ | ⟨h4, -⟩
    · rw [h4]; exact hq4
    · rw [r1] at h4; exact absurd h4 (by decide)
