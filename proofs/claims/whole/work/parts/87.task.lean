/-! steps of a task that leave the pages as they are -/
theorem lk_z (x : Int32) (n : Nat) (hn : n < 1000) : x.toInt = (n : Int) ↔ x = nI n := by
  constructor
  · intro h
    apply Int32.toInt_inj.mp
    rw [h, nI_toInt (by omega)]
  · intro h
    rw [h, nI_toInt (by omega)]
theorem lk_z1 {x : Int32} : x.toInt = 1 ↔ x = 1 := lk_z x 1 (by decide)
theorem lk_root {M : lk_M} {rt : Nat} (h : lk_TR M rt) : rt < 24 ∧ M 0 rt = 1 ∧ (M 2 rt).toInt = -1 := by
  have h7 : lk_T7 (lk_zi M 0) (lk_zi M 2) rt := h.2.2.2.2.2.2
  exact ⟨h7.1, lk_z1.mp h7.2.1, h7.2.2⟩
theorem lk_nI_inj {a b : Nat} (ha : a < 1000) (hb : b < 1000) (h : nI a = nI b) : a = b := (nI_eq (by omega) (by omega)).mp h
theorem lk_OW_step {M M' : lk_M} {t : Nat} (h : lk_OW M) (hs : lk_same M M' t) (ht : t < 4) (h1 : ∀ x, x < 24 → M' 6 x = M 6 x ∨ M' 6 x = -1 ∨ (M' 6 x = nI t ∧ M' 11 t = 1 ∧ M' 13 t = 2 ∧ M' 14 t = nI x)) (h2 : ∀ x, x < 24 → M 6 x = nI t → M' 6 x = -1 ∨ (M' 6 x = nI t ∧ M' 11 t = 1 ∧ M' 13 t = 2 ∧ M' 14 t = nI x)) : lk_OW M' := by
  intro x hx
  rcases h x hx with z | ⟨u, hu, z1, z2, z3, z4⟩
  · rcases h1 x hx with w | w | ⟨w1, w2, w3, w4⟩
    · exact Or.inl (w.trans z)
    · exact Or.inl w
    · exact Or.inr ⟨t, ht, w1, w2, w3, w4⟩
  · by_cases e : u = t
    · subst e
      rcases h2 x hx z1 with w | ⟨w1, w2, w3, w4⟩
      · exact Or.inl w
      · exact Or.inr ⟨u, hu, w1, w2, w3, w4⟩
    · rcases h1 x hx with w | w | ⟨w1, w2, w3, w4⟩
      · obtain ⟨s1, -, -⟩ := hs u hu e
        refine Or.inr ⟨u, hu, w.trans z1, ?_, ?_, ?_⟩
        · rw [s1 11 (by decide) (by decide)]; exact z2
        · rw [s1 13 (by decide) (by decide)]; exact z3
        · rw [s1 14 (by decide) (by decide)]; exact z4
      · exact Or.inl w
      · exact Or.inr ⟨t, ht, w1, w2, w3, w4⟩
/-- a task's own fields after a restart -/
theorem lk_rst_at (M : lk_M) (t f i : Nat) : lk_rst M t f i = if f = 22 ∧ i = 4 * t + 3 then M 22 (4 * t + 3) + 1 else if f = 14 ∧ i = t then M 24 0 else if f = 13 ∧ i = t then 0 else if f = 19 then (if 32 * t ≤ i ∧ i < 32 * t + 32 then -1 else M 19 i) else M f i := by
  unfold lk_rst lk_srch lk_nop
  simp only [lk_st_eq, lk_up_eq]
theorem lk_rst_f {M : lk_M} {t f i : Nat} (h13 : f ≠ 13) (h14 : f ≠ 14) (h19 : f ≠ 19) (h22 : f ≠ 22) : lk_rst M t f i = M f i := by
  rw [lk_rst_at, if_neg (fun z => h22 z.1), if_neg (fun z => h14 z.1), if_neg (fun z => h13 z.1), if_neg h19]
theorem lk_rst_pq (M : lk_M) (t : Nat) : lk_pq M (lk_rst M t) := by
  refine ⟨fun f hf => ?_, ?_, ?_, ?_, ?_, lk_rst_f (by decide) (by decide) (by decide) (by decide), lk_rst_f (by decide) (by decide) (by decide) (by decide)⟩
  · funext i; exact lk_rst_f (by omega) (by omega) (by omega) (by omega)
  all_goals funext i; exact lk_rst_f (by decide) (by decide) (by decide) (by decide)
theorem lk_rst_same (M : lk_M) (t : Nat) : lk_same M (lk_rst M t) t := by
  intro u hu hn
  refine ⟨fun f h1 h2 => ?_, ?_, fun i hi => ?_⟩
  · rw [lk_rst_at, if_neg (by omega), if_neg (fun z => hn z.2), if_neg (fun z => hn z.2), if_neg (by omega)]
  · exact lk_rst_f (by decide) (by decide) (by decide) (by decide)
  · rw [lk_rst_at, if_neg (by omega), if_neg (by omega), if_neg (by omega), if_pos rfl, if_neg (by omega)]
theorem lk_TK_rst {M : lk_M} {t : Nat} (h : lk_TI M) (ht : t < 4) (hk : lk_TK M t) : lk_TK (lk_rst M t) t := by
  obtain ⟨⟨rt, r1, r2⟩, -⟩ := h
  obtain ⟨q1, q2, -⟩ := lk_root r2
  have e12 : lk_rst M t 12 t = M 12 t := lk_rst_f (by decide) (by decide) (by decide) (by decide)
  have e15 : lk_rst M t 15 t = M 15 t := lk_rst_f (by decide) (by decide) (by decide) (by decide)
  have e16 : lk_rst M t 16 t = M 16 t := lk_rst_f (by decide) (by decide) (by decide) (by decide)
  have e18 : lk_rst M t 18 t = M 18 t := lk_rst_f (by decide) (by decide) (by decide) (by decide)
  have e0 : ∀ x, lk_rst M t 0 x = M 0 x := fun x => lk_rst_f (by decide) (by decide) (by decide) (by decide)
  have e1 : ∀ x, lk_rst M t 1 x = M 1 x := fun x => lk_rst_f (by decide) (by decide) (by decide) (by decide)
  have e2 : ∀ x, lk_rst M t 2 x = M 2 x := fun x => lk_rst_f (by decide) (by decide) (by decide) (by decide)
  have e13 : lk_rst M t 13 t = 0 := by rw [lk_rst_at, if_neg (by omega), if_neg (by omega), if_pos ⟨rfl, rfl⟩]
  have e14 : lk_rst M t 14 t = M 24 0 := by rw [lk_rst_at, if_neg (by omega), if_pos ⟨rfl, rfl⟩]
  obtain ⟨k1, k2, k3, k4, -, -, k9, k10, k11, k12⟩ := hk
  refine ⟨by rw [e12]; exact k1, ⟨0, by decide, by rw [e13]; rfl⟩, by rw [e15]; exact k3, by rw [e16]; exact k4, ⟨rt, q1, by rw [e14]; exact r1, Or.inl (by rw [e0]; exact q2), fun z => absurd e13 z⟩, ?_, by rw [e12, e16]; exact k9, fun _ => e13, ?_, ?_⟩
  · intro i hi
    left
    rw [lk_rst_at, if_neg (by omega), if_neg (by omega), if_neg (by omega), if_pos rfl, if_pos (by omega)]
  · rw [e12, e13, e16, e18]
    intro z
    rcases k11 z with ⟨w, -⟩ | w
    · exact Or.inl ⟨w, rfl⟩
    · exact Or.inr w
  · rw [e12]
    intro z
    obtain ⟨w0, q, hq1, hq2, hq3, hq4, hq5, hq6⟩ := k12 z
    exact ⟨by rw [e16]; exact w0, q, hq1, by rw [e18]; exact hq2, by rw [e0]; exact hq3, by rw [e1, e16]; exact hq4, by rw [e2, e15]; exact hq5, lk_nc_of (lk_rst_pq M t).1 (lk_rst_pq M t).2.2.1 hq6⟩
/-- a task goes on: another place, another phase, more of a path -/
theorem lk_TK_go {M M' : lk_M} {t f x : Nat} (e : lk_pq M M') (hk : lk_TK M t) (hf : f ≤ 2) (hx : x < 24) (e12 : M' 12 t = M 12 t) (e15 : M' 15 t = M 15 t) (e16 : M' 16 t = M 16 t) (e18 : M' 18 t = M 18 t) (e13 : M' 13 t = nI f) (e14 : M' 14 t = nI x) (ha : lk_al M t x) (hl : f ≠ 0 → M 0 x = 1 → M 1 x = M 16 t) (hpa : ∀ i, i < 32 → M' 19 (32 * t + i) = M 19 (32 * t + i) ∨ ∃ y, y < 24 ∧ M' 19 (32 * t + i) = nI y ∧ lk_al M t y) (h0 : f ≠ 0 → M 12 t ≠ 0) (h3 : f ≠ 0 → M 12 t = 3 → M 18 t ≠ -1) : lk_TK M' t := by
  obtain ⟨p0, p7, p8, p9, p10, pr, pq⟩ := e
  obtain ⟨k1, k2, k3, k4, -, k8, k9, k10, k11, k12⟩ := hk
  have al : ∀ y, lk_al M t y → lk_al M' t y := fun y z => by
    unfold lk_al at z ⊢
    rw [p0 0 (by decide), p9]; exact z
  have z0 : nI f ≠ 0 ↔ f ≠ 0 := not_congr (nI_eq (b := 0) (by omega) (by omega))
  refine ⟨by rw [e12]; exact k1, ⟨f, hf, e13⟩, by rw [e15]; exact k3, by rw [e16]; exact k4, ⟨x, hx, e14, al x ha, ?_⟩, ?_, by rw [e12, e16]; exact k9, ?_, ?_, ?_⟩
  · rw [e13, e16, p0 0 (by decide), p0 1 (by decide)]
    intro w
    exact hl (z0.mp w)
  · intro i hi
    rcases hpa i hi with w | ⟨y, hy, w1, w2⟩
    · rw [w]
      rcases k8 i hi with v | ⟨y, hy, v1, v2⟩
      · exact Or.inl v
      · exact Or.inr ⟨y, hy, v1, al y v2⟩
    · exact Or.inr ⟨y, hy, w1, al y w2⟩
  · rw [e12, e13]
    intro w
    by_cases c : f = 0
    · rw [c]; rfl
    · exact absurd w (h0 c)
  · rw [e12, e13, e16, e18]
    intro w
    rcases k11 w with ⟨v, -⟩ | v
    · left
      refine ⟨v, ?_⟩
      by_cases c : f = 0
      · rw [c]; rfl
      · exact absurd v (h3 c w)
    · exact Or.inr v
  · rw [e12]
    intro w
    obtain ⟨w0, q, hq1, hq2, hq3, hq4, hq5, hq6⟩ := k12 w
    exact ⟨by rw [e16]; exact w0, q, hq1, by rw [e18]; exact hq2, by rw [p0 0 (by decide)]; exact hq3, by rw [p0 1 (by decide), e16]; exact hq4, by rw [p0 2 (by decide), e15]; exact hq5, lk_nc_of p0 p8 hq6⟩
/-- .. and the invariant stays -/
theorem lk_Inv_go {M M' : lk_M} {t : Nat} (h : lk_Inv M) (ht : t < 4) (e : lk_pq M M') (hs : lk_same M M' t) (how : lk_OW M') (hbu : M' 11 t = M 11 t) (h20 : M' 20 t = M 20 t) (e12 : M' 12 t = M 12 t) (e18 : M' 18 t = M 18 t) (htk : M 11 t = 1 → lk_TK M' t) : lk_Inv M' := by
  have hb := h.2.2.2.2.2.2.1 t ht
  have hp := h.2.2.2.2.2.2.2.2
  refine lk_Inv_step h ht (lk_pq_Ev e hs) (lk_pq_TI e (lk_Inv_TI h)) how (by rw [hbu, h20]; exact hb) (by rw [hbu]; exact htk) ?_
  rw [hbu, e12, e18]
  intro b o u hu hn bu ou
  exact hp t u ht hu (fun z => hn z.symm) b bu o ou
