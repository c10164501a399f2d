/-! the steps of a search keep the invariant -/
theorem lk_noown {M : lk_M} {t : Nat} (h : lk_OW M) (ht : t < 4) (h2 : M 13 t ≠ 2) : ∀ x, x < 24 → M 6 x ≠ nI t := by
  intro x hx z
  rcases h x hx with w | ⟨u, hu, w1, w2, w3, w4⟩
  · rw [z] at w; exact lk_nI_m1 (by omega) w
  · have e := lk_nI_inj (by omega) (by omega) (w1.symm.trans z)
    rw [e] at w3
    exact h2 w3
theorem lk_OW_go {M M' : lk_M} {t : Nat} (h : lk_OW M) (ht : t < 4) (hs : lk_same M M' t) (e6 : ∀ x, M' 6 x = M 6 x) (h2 : M 13 t ≠ 2) : lk_OW M' :=
  lk_OW_step h hs ht (fun x _ => Or.inl (e6 x)) (fun x hx z => absurd z (lk_noown h ht h2 x hx))
theorem lk_OW_rel {M M' : lk_M} {t p : Nat} (h : lk_OW M) (ht : t < 4) (hp : p < 24) (hs : lk_same M M' t) (hpl : M 14 t = nI p) (e6 : ∀ x, x ≠ p → M' 6 x = M 6 x) (ep : M' 6 p = -1) : lk_OW M' := by
  refine lk_OW_step h hs ht (fun x _ => ?_) (fun x hx z => ?_)
  · by_cases e : x = p
    · rw [e]; exact Or.inr (Or.inl ep)
    · exact Or.inl (e6 x e)
  · rcases h x hx with w | ⟨u, hu, w1, w2, w3, w4⟩
    · rw [z] at w; exact absurd w (lk_nI_m1 (by omega))
    · have e := lk_nI_inj (by omega) (by omega) (w1.symm.trans z)
      rw [e, hpl] at w4
      have e2 := lk_nI_inj (by omega) (by omega) w4
      rw [← e2]; exact Or.inl ep
theorem lk_st_pq {M : lk_M} {f i : Nat} {v : Int32} (h : 10 < f ∧ f < 24 ∨ f = 6) : lk_pq M (lk_st M f i v) := by
  refine ⟨fun g hg => ?_, ?_, ?_, ?_, ?_, lk_st_f (by omega), lk_st_f (by omega)⟩
  · by_cases e : g = f
    · exfalso; omega
    · funext j; exact lk_st_f e
  all_goals funext j; exact lk_st_f (by omega)
theorem lk_pq_tr {M M' M'' : lk_M} (h1 : lk_pq M M') (h2 : lk_pq M' M'') : lk_pq M M'' := by
  obtain ⟨a1, a2, a3, a4, a5, a6, a7⟩ := h1
  obtain ⟨b1, b2, b3, b4, b5, b6, b7⟩ := h2
  exact ⟨fun f hf => (b1 f hf).trans (a1 f hf), b2.trans a2, b3.trans a3, b4.trans a4, b5.trans a5, b6.trans a6, b7.trans a7⟩
theorem lk_same_rf (M : lk_M) (t : Nat) : lk_same M M t := fun _ _ _ => ⟨fun _ _ _ => rfl, rfl, fun _ _ => rfl⟩
theorem lk_same_tr {M M' M'' : lk_M} {t : Nat} (h1 : lk_same M M' t) (h2 : lk_same M' M'' t) : lk_same M M'' t := by
  intro u hu hn
  obtain ⟨a1, a2, a3⟩ := h1 u hu hn
  obtain ⟨b1, b2, b3⟩ := h2 u hu hn
  exact ⟨fun f x y => (b1 f x y).trans (a1 f x y), b2.trans a2, fun i hi => (b3 i hi).trans (a3 i hi)⟩
/-- a store into a field of t, or into one that is no task's -/
theorem lk_st_same {M : lk_M} {t f i : Nat} {v : Int32} (h : f < 11 ∨ f = 24 ∨ f = 22 ∨ (f ≠ 19 ∧ i = t) ∨ (f = 19 ∧ ∃ j, j < 32 ∧ i = 32 * t + j)) : lk_same M (lk_st M f i v) t := by
  intro u hu hn
  refine ⟨fun g h1 h2 => ?_, ?_, fun k hk => ?_⟩
  · rw [lk_st_eq, if_neg]
    rintro ⟨rfl, rfl⟩
    rcases h with h | h | h | h | ⟨h, -⟩
    · omega
    · omega
    · omega
    · exact hn h.2
    · omega
  · rw [lk_st_eq, if_neg]
    rintro ⟨rfl, rfl⟩
    rcases h with h | h | h | h | ⟨h, -⟩
    · omega
    · omega
    · omega
    · exact hn h.2
    · omega
  · rw [lk_st_eq, if_neg]
    rintro ⟨rfl, rfl⟩
    rcases h with h | h | h | h | ⟨-, j, hj, h⟩
    · omega
    · omega
    · omega
    · exact h.1 rfl
    · omega
/-- the root, as a number -/
theorem lk_Inv_rst {M : lk_M} {t : Nat} (h : lk_Inv M) (ht : t < 4) (hb : M 11 t = 1) (h2 : M 13 t ≠ 2) : lk_Inv (lk_rst M t) := by
  refine lk_Inv_go h ht (lk_rst_pq M t) (lk_rst_same M t) (lk_OW_go h.2.2.2.1 ht (lk_rst_same M t) (fun x => lk_rst_f (by decide) (by decide) (by decide) (by decide)) h2) ?_ ?_ ?_ ?_ (fun _ => lk_TK_rst (lk_Inv_TI h) ht (h.2.2.2.2.2.2.2.1 t ht hb))
  all_goals exact lk_rst_f (by decide) (by decide) (by decide) (by decide)
theorem lk_Inv_rst2 {M : lk_M} {t p : Nat} (h : lk_Inv M) (ht : t < 4) (hp : p < 24) (hb : M 11 t = 1) (hpl : M 14 t = nI p) : lk_Inv (lk_st (lk_rst M t) 6 p (-1)) := by
  have hs : lk_same M (lk_st (lk_rst M t) 6 p (-1)) t := lk_same_tr (lk_rst_same M t) (lk_st_same (Or.inl (by decide)))
  have e : lk_pq M (lk_st (lk_rst M t) 6 p (-1)) := lk_pq_tr (lk_rst_pq M t) (lk_st_pq (Or.inr rfl))
  have hk := lk_TK_rst (lk_Inv_TI h) ht (h.2.2.2.2.2.2.2.1 t ht hb)
  refine lk_Inv_go h ht e hs (lk_OW_rel h.2.2.2.1 ht hp hs hpl (fun x hx => (lk_st_p hx).trans (lk_rst_f (by decide) (by decide) (by decide) (by decide))) lk_st_s) ?_ ?_ ?_ ?_ (fun _ => ?_)
  · exact (lk_st_f (by decide)).trans (lk_rst_f (by decide) (by decide) (by decide) (by decide))
  · exact (lk_st_f (by decide)).trans (lk_rst_f (by decide) (by decide) (by decide) (by decide))
  · exact (lk_st_f (by decide)).trans (lk_rst_f (by decide) (by decide) (by decide) (by decide))
  · exact (lk_st_f (by decide)).trans (lk_rst_f (by decide) (by decide) (by decide) (by decide))
  · obtain ⟨f, hf, ef⟩ := hk.2.1
    obtain ⟨x, hx, ex, ax, lx⟩ := hk.2.2.2.2.1
    have z0 : f = 0 := by
      have e13 : lk_rst M t 13 t = 0 := by rw [lk_rst_at, if_neg (by omega), if_neg (by omega), if_pos ⟨rfl, rfl⟩]
      exact (nI_eq (b := 0) (by omega) (by omega)).mp (ef.symm.trans e13)
    subst z0
    exact lk_TK_go (lk_st_pq (Or.inr rfl)) hk hf hx (lk_st_f (by decide)) (lk_st_f (by decide)) (lk_st_f (by decide)) (lk_st_f (by decide)) ((lk_st_f (by decide)).trans ef) ((lk_st_f (by decide)).trans ex) ax (fun z => absurd rfl z) (fun i _ => Or.inl (lk_st_f (by decide))) (fun z => absurd rfl z) (fun z => absurd rfl z)
theorem lk_TKof {M : lk_M} {t : Nat} (h : lk_Inv M) (ht : t < 4) (hb : M 11 t = 1) : lk_TK M t := h.2.2.2.2.2.2.2.1 t ht hb
theorem lk_key {M : lk_M} {t : Nat} (hk : lk_TK M t) : (M 15 t).toInt ≤ 999 := by
  obtain ⟨k, h1, h2⟩ := hk.2.2.1
  rw [h2, nI_toInt (by omega)]
  omega
/-- to the right, in a search -/
theorem lk_Inv_rgt {M : lk_M} {t p : Nat} (h : lk_Inv M) (ht : t < 4) (hp : p < 24) (hb : M 11 t = 1) (h0 : M 13 t = 0) (kp : M 0 p = 1) (hlt : M 3 p < M 15 t) : lk_Inv (lk_rgt M t p) := by
  have hk := lk_TKof h ht hb
  obtain ⟨rt, r1, r2⟩ := h.1
  obtain ⟨r, hr, e4, k4, -⟩ := lk_rightp r2 hp kp (lk_key hk) hlt
  have e : lk_pq M (lk_rgt M t p) := lk_pq_tr (lk_st_pq (Or.inl (by decide))) (lk_st_pq (Or.inl (by decide)))
  have hs : lk_same M (lk_rgt M t p) t := lk_same_tr (lk_st_same (Or.inr (Or.inr (Or.inr (Or.inl ⟨by decide, rfl⟩))))) (lk_st_same (Or.inr (Or.inr (Or.inl rfl))))
  have hf : ∀ f x, f ≠ 14 → f ≠ 22 → lk_rgt M t p f x = M f x := fun f x h1 h2 => (lk_st_f h2).trans (lk_st_f h1)
  have e14 : lk_rgt M t p 14 t = nI r := ((lk_st_f (by decide)).trans lk_st_s).trans e4
  refine lk_Inv_go h ht e hs (lk_OW_go h.2.2.2.1 ht hs (fun x => hf 6 x (by decide) (by decide)) (by rw [h0]; decide)) (hf 11 t (by decide) (by decide)) (hf 20 t (by decide) (by decide)) (hf 12 t (by decide) (by decide)) (hf 18 t (by decide) (by decide)) (fun _ => ?_)
  exact lk_TK_go (f := 0) e hk (by decide) hr (hf 12 t (by decide) (by decide)) (hf 15 t (by decide) (by decide)) (hf 16 t (by decide) (by decide)) (hf 18 t (by decide) (by decide)) ((hf 13 t (by decide) (by decide)).trans h0) e14 (Or.inl k4) (fun z => absurd rfl z) (fun i _ => Or.inl (hf 19 _ (by decide) (by decide))) (fun z => absurd rfl z) (fun z => absurd rfl z)
/-- to the right, out of a hold -/
theorem lk_Inv_rgt2 {M : lk_M} {t p : Nat} (h : lk_Inv M) (ht : t < 4) (hp : p < 24) (hb : M 11 t = 1) (hpl : M 14 t = nI p) (h2 : M 13 t = 2) (kp : M 0 p = 1) (hlt : M 3 p < M 15 t) : lk_Inv (lk_st (lk_st (lk_rgt M t p) 13 t 1) 6 p (-1)) := by
  have hk := lk_TKof h ht hb
  obtain ⟨rt, r1, r2⟩ := h.1
  obtain ⟨r, hr, e4, k4, l4⟩ := lk_rightp r2 hp kp (lk_key hk) hlt
  have e : lk_pq M (lk_st (lk_st (lk_rgt M t p) 13 t 1) 6 p (-1)) := lk_pq_tr (lk_pq_tr (lk_pq_tr (lk_st_pq (Or.inl (by decide))) (lk_st_pq (Or.inl (by decide)))) (lk_st_pq (Or.inl (by decide)))) (lk_st_pq (Or.inr rfl))
  have hs : lk_same M (lk_st (lk_st (lk_rgt M t p) 13 t 1) 6 p (-1)) t := lk_same_tr (lk_same_tr (lk_same_tr (lk_st_same (Or.inr (Or.inr (Or.inr (Or.inl ⟨by decide, rfl⟩))))) (lk_st_same (Or.inr (Or.inr (Or.inl rfl))))) (lk_st_same (Or.inr (Or.inr (Or.inr (Or.inl ⟨by decide, rfl⟩)))))) (lk_st_same (Or.inl (by decide)))
  have hf : ∀ f x, f ≠ 6 → f ≠ 13 → f ≠ 14 → f ≠ 22 → lk_st (lk_st (lk_rgt M t p) 13 t 1) 6 p (-1) f x = M f x := fun f x h1 h2 h3 h4 => (lk_st_f h1).trans ((lk_st_f h2).trans ((lk_st_f h4).trans (lk_st_f h3)))
  have e14 : lk_st (lk_st (lk_rgt M t p) 13 t 1) 6 p (-1) 14 t = nI r := ((lk_st_f (by decide)).trans ((lk_st_f (by decide)).trans ((lk_st_f (by decide)).trans lk_st_s))).trans e4
  have e13 : lk_st (lk_st (lk_rgt M t p) 13 t 1) 6 p (-1) 13 t = nI 1 := (lk_st_f (by decide)).trans lk_st_s
  -- the level of p is the wanted one
  obtain ⟨x, hx, px, ax, lx⟩ := hk.2.2.2.2.1
  have exp : x = p := lk_nI_inj (by omega) (by omega) (px.symm.trans hpl)
  subst exp
  have lw := lx (by rw [h2]; decide) kp
  refine lk_Inv_go h ht e hs (lk_OW_rel h.2.2.2.1 ht hp hs hpl (fun y hy => (lk_st_p hy).trans ((lk_st_f (by decide)).trans ((lk_st_f (by decide)).trans (lk_st_f (by decide))))) lk_st_s) (hf 11 t (by decide) (by decide) (by decide) (by decide)) (hf 20 t (by decide) (by decide) (by decide) (by decide)) (hf 12 t (by decide) (by decide) (by decide) (by decide)) (hf 18 t (by decide) (by decide) (by decide) (by decide)) (fun _ => ?_)
  refine lk_TK_go (f := 1) e hk (by decide) hr (hf 12 t (by decide) (by decide) (by decide) (by decide)) (hf 15 t (by decide) (by decide) (by decide) (by decide)) (hf 16 t (by decide) (by decide) (by decide) (by decide)) (hf 18 t (by decide) (by decide) (by decide) (by decide)) e13 e14 (Or.inl k4) (fun _ _ => l4.trans lw) (fun i _ => Or.inl (hf 19 _ (by decide) (by decide) (by decide) (by decide))) (fun _ z => ?_) (fun _ z w => ?_)
  · have := hk.2.2.2.2.2.2.2.1 z
    rw [h2] at this
    exact absurd this (by decide)
  · rcases hk.2.2.2.2.2.2.2.2.1 z with ⟨-, v⟩ | ⟨y, hy, v, -⟩
    · rw [h2] at v; exact absurd v (by decide)
    · rw [w] at v; exact lk_nI_m1 (by omega) v.symm
theorem lk_n4 {M : lk_M} {p : Nat} (h : lk_Inv M) (hp : p < 24) (kp : M 0 p = 1) : ∃ n, n ≤ 4 ∧ M 5 p = nI n := h.2.1 p hp kp
/-- down to a child -/
theorem lk_Inv_down {M : lk_M} {t p n v : Nat} (h : lk_Inv M) (ht : t < 4) (hp : p < 24) (hb : M 11 t = 1) (h0 : M 13 t = 0) (kp : M 0 p = 1) (hn : n ≤ 4) (h5 : M 5 p = nI n) (hv : v ≤ 23) (h1 : M 1 p = nI v) (hle : ¬ M 3 p < M 15 t) (hw : M 16 t < M 1 p) : lk_Inv (lk_st (lk_st M 19 (32 * t + v) (nI p)) 14 t (M 8 (5 * p + lk_at M p n (M 15 t)))) ∧ lk_at M p n (M 15 t) < n := by
  have hk := lk_TKof h ht hb
  obtain ⟨rt, r1, r2⟩ := h.1
  obtain ⟨w, hw1, hw2⟩ := hk.2.2.2.1
  have hl : 0 < (M 1 p).toInt := by
    rw [Int32.lt_iff_toInt_lt, hw2, nI_toInt (by omega)] at hw
    omega
  have hat := lk_atlt r2 hp kp hn h5 hl hle
  obtain ⟨c, hc, e8, kc, -⟩ := lk_child r2 hp kp hn h5 hl hat
  refine ⟨?_, hat⟩
  rw [e8]
  have e : lk_pq M (lk_st (lk_st M 19 (32 * t + v) (nI p)) 14 t (nI c)) := lk_pq_tr (lk_st_pq (Or.inl (by decide))) (lk_st_pq (Or.inl (by decide)))
  have hs : lk_same M (lk_st (lk_st M 19 (32 * t + v) (nI p)) 14 t (nI c)) t := lk_same_tr (lk_st_same (Or.inr (Or.inr (Or.inr (Or.inr ⟨rfl, v, by omega, rfl⟩))))) (lk_st_same (Or.inr (Or.inr (Or.inr (Or.inl ⟨by decide, rfl⟩)))))
  have hf : ∀ f x, f ≠ 14 → f ≠ 19 → lk_st (lk_st M 19 (32 * t + v) (nI p)) 14 t (nI c) f x = M f x := fun f x h1 h2 => (lk_st_f h1).trans (lk_st_f h2)
  refine lk_Inv_go h ht e hs (lk_OW_go h.2.2.2.1 ht hs (fun x => hf 6 x (by decide) (by decide)) (by rw [h0]; decide)) (hf 11 t (by decide) (by decide)) (hf 20 t (by decide) (by decide)) (hf 12 t (by decide) (by decide)) (hf 18 t (by decide) (by decide)) (fun _ => ?_)
  refine lk_TK_go (f := 0) e hk (by decide) hc (hf 12 t (by decide) (by decide)) (hf 15 t (by decide) (by decide)) (hf 16 t (by decide) (by decide)) (hf 18 t (by decide) (by decide)) ((hf 13 t (by decide) (by decide)).trans h0) lk_st_s (Or.inl kc) (fun z => absurd rfl z) (fun i _ => ?_) (fun z => absurd rfl z) (fun z => absurd rfl z)
  by_cases ei : i = v
  · right
    rw [ei]
    exact ⟨p, hp, (lk_st_f (by decide)).trans lk_st_s, Or.inl kp⟩
  · left
    exact (lk_st_f (by decide)).trans (lk_st_p (by omega))
/-- the page is found: now it is to be locked -/
theorem lk_Inv_found {M : lk_M} {t p : Nat} (h : lk_Inv M) (ht : t < 4) (hb : M 11 t = 1) (hpl : M 14 t = nI p) (hp : p < 24) (h0 : M 13 t = 0) (kp : M 0 p = 1) (hl : M 1 p = M 16 t) (ho : M 12 t ≠ 0) (h3 : ¬ (M 12 t = 3 ∧ M 18 t = -1)) : lk_Inv (lk_st M 13 t 1) := by
  have hk := lk_TKof h ht hb
  have e : lk_pq M (lk_st M 13 t 1) := lk_st_pq (Or.inl (by decide))
  have hs : lk_same M (lk_st M 13 t 1) t := lk_st_same (Or.inr (Or.inr (Or.inr (Or.inl ⟨by decide, rfl⟩))))
  refine lk_Inv_go h ht e hs (lk_OW_go h.2.2.2.1 ht hs (fun x => lk_st_f (by decide)) (by rw [h0]; decide)) (lk_st_f (by decide)) (lk_st_f (by decide)) (lk_st_f (by decide)) (lk_st_f (by decide)) (fun _ => ?_)
  exact lk_TK_go (f := 1) e hk (by decide) hp (lk_st_f (by decide)) (lk_st_f (by decide)) (lk_st_f (by decide)) (lk_st_f (by decide)) lk_st_s ((lk_st_f (by decide)).trans hpl) (Or.inl kp) (fun _ _ => hl) (fun i _ => Or.inl (lk_st_f (by decide))) (fun _ => ho) (fun _ z w => h3 ⟨z, w⟩)
/-- the lock is taken -/
theorem lk_Inv_lock {M : lk_M} {t p : Nat} (h : lk_Inv M) (ht : t < 4) (hb : M 11 t = 1) (hpl : M 14 t = nI p) (hp : p < 24) (h1 : M 13 t = 1) : lk_Inv (mm_locks M t p).2 ∧ M 6 p ≠ nI t := by
  have hno := lk_noown h.2.2.2.1 ht (by rw [h1]; decide)
  refine ⟨?_, hno p hp⟩
  unfold mm_locks
  by_cases c : M 6 p = -1
  · rw [if_pos c]
    show lk_Inv (lk_st (lk_st M 6 p (nI t)) 13 t 2)
    have hk := lk_TKof h ht hb
    have e : lk_pq M (lk_st (lk_st M 6 p (nI t)) 13 t 2) := lk_pq_tr (lk_st_pq (Or.inr rfl)) (lk_st_pq (Or.inl (by decide)))
    have hs : lk_same M (lk_st (lk_st M 6 p (nI t)) 13 t 2) t := lk_same_tr (lk_st_same (Or.inl (by decide))) (lk_st_same (Or.inr (Or.inr (Or.inr (Or.inl ⟨by decide, rfl⟩)))))
    have hf : ∀ f x, f ≠ 6 → f ≠ 13 → lk_st (lk_st M 6 p (nI t)) 13 t 2 f x = M f x := fun f x z1 z2 => (lk_st_f z2).trans (lk_st_f z1)
    have own : lk_st (lk_st M 6 p (nI t)) 13 t 2 6 p = nI t ∧ lk_st (lk_st M 6 p (nI t)) 13 t 2 11 t = 1 ∧ lk_st (lk_st M 6 p (nI t)) 13 t 2 13 t = 2 ∧ lk_st (lk_st M 6 p (nI t)) 13 t 2 14 t = nI p := ⟨(lk_st_f (by decide)).trans lk_st_s, (hf 11 t (by decide) (by decide)).trans hb, lk_st_s, (hf 14 t (by decide) (by decide)).trans hpl⟩
    refine lk_Inv_go h ht e hs (lk_OW_step h.2.2.2.1 hs ht (fun x _ => ?_) (fun x hx z => absurd z (hno x hx))) (hf 11 t (by decide) (by decide)) (hf 20 t (by decide) (by decide)) (hf 12 t (by decide) (by decide)) (hf 18 t (by decide) (by decide)) (fun _ => ?_)
    · by_cases ex : x = p
      · subst ex; exact Or.inr (Or.inr own)
      · exact Or.inl ((lk_st_f (by decide)).trans (lk_st_p ex))
    · obtain ⟨x, hx, px, ax, lx⟩ := hk.2.2.2.2.1
      have exp : x = p := lk_nI_inj (by omega) (by omega) (px.symm.trans hpl)
      subst exp
      refine lk_TK_go (f := 2) e hk (by decide) hp (hf 12 t (by decide) (by decide)) (hf 15 t (by decide) (by decide)) (hf 16 t (by decide) (by decide)) (hf 18 t (by decide) (by decide)) lk_st_s ((hf 14 t (by decide) (by decide)).trans hpl) ax (fun _ => lx (by rw [h1]; decide)) (fun i _ => Or.inl (hf 19 _ (by decide) (by decide))) (fun _ z => ?_) (fun _ z w => ?_)
      · have := hk.2.2.2.2.2.2.2.1 z
        rw [h1] at this
        exact absurd this (by decide)
      · rcases hk.2.2.2.2.2.2.2.2.1 z with ⟨-, v⟩ | ⟨y, hy, v, -⟩
        · rw [h1] at v; exact absurd v (by decide)
        · rw [w] at v; exact lk_nI_m1 (by omega) v.symm
  · rw [if_neg c]
    exact h
