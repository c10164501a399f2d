/-! a task begins; the first memory; what a step wants is there -/
theorem lk_Inv_beg {M M' : lk_M} {t o k w : Nat} (h : lk_Inv M) (ht : t < 4) (hid : M 11 t = 0) (e : ∀ f i, f < 10 → M' f i = M f i) (e24 : M' 24 0 = M 24 0) (hq : lk_QU M') (hs : lk_same M M' t) (e11 : M' 11 t = 1) (ho : o ≤ 3) (e12 : M' 12 t = nI o) (e13 : M' 13 t = 0) (e14 : M' 14 t = M 24 0) (hk : k ≤ 999) (e15 : M' 15 t = nI k) (hw : w ≤ 24) (e16 : M' 16 t = nI w) (hp : ∀ i, i < 32 → M' 19 (32 * t + i) = -1) (h012 : o < 3 → w = 0) (h3 : o = 3 → M' 18 t = -1 ∨ ∃ x, x < 24 ∧ M' 18 t = nI x ∧ w ≠ 0) (e20 : M' 20 t = M 20 t) : lk_Inv M' := by
  obtain ⟨rt, r1, r2⟩ := h.1
  obtain ⟨q1, q2, -⟩ := lk_root r2
  have own : ∀ x, x < 24 → M 6 x ≠ nI t := fun x hx z => by
    rcases h.2.2.2.1 x hx with w | ⟨u, hu, w1, w2, -⟩
    · rw [z] at w; exact lk_nI_m1 (by omega) w
    · have e := lk_nI_inj (by omega) (by omega) (w1.symm.trans z)
      rw [e, hid] at w2
      exact absurd w2 (by decide)
  refine lk_Inv_step h ht (lk_Ev_q e hs) (lk_TI_q (lk_Inv_TI h) e e24 hq) (lk_OW_step h.2.2.2.1 hs ht (fun x _ => Or.inl (e 6 x (by decide))) (fun x hx z => absurd z (own x hx))) ⟨Or.inr e11, by rw [e20]; exact (h.2.2.2.2.2.2.1 t ht).2⟩ (fun _ => ?_) (fun _ z4 => ?_)
  · refine ⟨⟨o, by omega, e12⟩, ⟨0, by decide, e13⟩, ⟨k, hk, e15⟩, ⟨w, hw, e16⟩, ⟨rt, q1, e14.trans r1, Or.inl ((e 0 rt (by decide)).trans q2), fun c => absurd e13 c⟩, fun i hi => Or.inl (hp i hi), ?_, fun _ => e13, ?_, ?_⟩
    · rw [e12, e16]
      intro c
      have : o < 3 := by
        rcases c with c | c | c
        · have := lk_nI_inj (a := o) (b := 0) (by omega) (by decide) c; omega
        · have := lk_nI_inj (a := o) (b := 1) (by omega) (by decide) c; omega
        · have := lk_nI_inj (a := o) (b := 2) (by omega) (by decide) c; omega
      rw [h012 this]; rfl
    · rw [e12, e13, e16]
      intro c
      rcases h3 (lk_nI_inj (a := o) (b := 3) (by omega) (by decide) c) with a | ⟨x, hx, a1, a2⟩
      · exact Or.inl ⟨a, rfl⟩
      · exact Or.inr ⟨x, hx, a1, fun c => a2 (lk_nI_inj (a := w) (b := 0) (by omega) (by decide) c)⟩
    · rw [e12]
      intro c
      have := lk_nI_inj (a := o) (b := 4) (by omega) (by decide) c
      omega
  · rw [e12] at z4
    have := lk_nI_inj (a := o) (b := 4) (by omega) (by decide) z4
    omega
theorem lk_beg_at (M : lk_M) (t : Nat) (o k v : Int32) (f i : Nat) : mm_beg0 M t o k v f i = if f = 14 ∧ i = t then M 24 0 else if f = 13 ∧ i = t then 0 else if f = 19 then (if 32 * t ≤ i ∧ i < 32 * t + 32 then -1 else M 19 i) else if f = 18 ∧ i = t then -1 else if f = 17 ∧ i = t then v else if f = 16 ∧ i = t then 0 else if f = 15 ∧ i = t then k else if f = 12 ∧ i = t then o else if f = 11 ∧ i = t then 1 else M f i := by
  unfold mm_beg0 lk_srch lk_nop
  simp only [lk_st_eq, lk_up_eq]
  by_cases c14 : f = 14 ∧ i = t
  · rw [if_pos c14, if_pos c14]
  · rw [if_neg c14, if_neg c14]
    by_cases c13 : f = 13 ∧ i = t
    · rw [if_pos c13, if_pos c13]
    · rw [if_neg c13, if_neg c13]
      by_cases c19 : f = 19
      · subst c19; simp
      · rw [if_neg c19, if_neg c19]
theorem lk_lq_QU {M : lk_M} {p n : Nat} (h : lk_QU M) (hq : M 24 1 = nI n) (hn : n ≤ 12) : lk_QU (lk_lq M (nI p) n) := by
  obtain ⟨n', hn', q1, q2⟩ := h
  have e : n' = n := lk_nI_inj (by omega) (by omega) (q1.symm.trans hq)
  subst e
  have le := lk_cmp_le (M 10) (nI p) n'
  refine ⟨(lk_cmp (M 10) (nI p) n').2, by omega, lk_lq_q, fun i hi => ?_⟩
  obtain ⟨j, hj, e1, e2⟩ := (lk_cmp_in (M 10) (nI p) n').2 i hi
  obtain ⟨x, hx, y1, y2⟩ := q2 j hj
  refine ⟨x, hx, ?_, ?_⟩
  · have : lk_lq M (nI p) n' 10 i = (lk_cmp (M 10) (nI p) n').1 i := by
      unfold lk_lq; rw [lk_up_eq, if_neg (by decide), lk_up_eq, if_pos rfl]
    rw [this, e1]; exact y1
  · rw [lk_lq_f (by decide) (by decide)]; exact y2
theorem lk_Inv_begin {M : lk_M} {t nq rt x : Nat} {o k v : Int32} (h : lk_Inv M) (ht : t < 4) (hok : lk_bok (nI t) o k) (hid : M 11 t = 0) (hnq : nq ≤ 12) (hq : M 24 1 = nI nq) (hrt : rt < 24) (r1 : M 24 0 = nI rt) (hx0 : 0 < nq → x < 24 ∧ M 10 0 = nI x) : lk_Inv (if o = 3 then mm_bj (mm_beg0 M t o k v) t nq rt x else mm_beg0 M t o k v) := by
  have r2 := lk_rt_of h hrt r1
  obtain ⟨-, ho, hk⟩ := hok
  obtain ⟨o', ho', eo⟩ : ∃ o', o' ≤ 3 ∧ o = nI o' := lk_Int32_nat (x := o) (b := 3) (by have := Int32.le_iff_toInt_le.mp ho.1; exact this) (by have := Int32.le_iff_toInt_le.mp ho.2; exact this)
  have b : ∀ f i, mm_beg0 M t o k v f i = _ := lk_beg_at M t o k v
  have bp : ∀ f i, f < 11 ∨ f = 24 → mm_beg0 M t o k v f i = M f i := fun f i hf => by
    rw [b]; repeat rw [if_neg (by omega)]
  have b20 : ∀ i, mm_beg0 M t o k v 20 i = M 20 i := fun i => by
    rw [b]; repeat rw [if_neg (by omega)]
  have bs : lk_same M (mm_beg0 M t o k v) t := fun u hu hn => ⟨fun f f1 f2 => by
      rw [b]; repeat rw [if_neg (by omega)], b20 u, fun i hi => by
      rw [b, if_neg (by omega), if_neg (by omega), if_pos rfl, if_neg (by omega)]⟩
  have b11 : mm_beg0 M t o k v 11 t = 1 := by rw [b]; simp
  have b12 : mm_beg0 M t o k v 12 t = o := by rw [b]; simp
  have b13 : mm_beg0 M t o k v 13 t = 0 := by rw [b]; simp
  have b14 : mm_beg0 M t o k v 14 t = M 24 0 := by rw [b]; simp
  have b15 : mm_beg0 M t o k v 15 t = k := by rw [b]; simp
  have b16 : mm_beg0 M t o k v 16 t = 0 := by rw [b]; simp
  have b18 : mm_beg0 M t o k v 18 t = -1 := by rw [b]; simp
  have b19 : ∀ i, i < 32 → mm_beg0 M t o k v 19 (32 * t + i) = -1 := fun i hi => by
    rw [b, if_neg (by omega), if_neg (by omega), if_pos rfl, if_pos (by omega)]
  have bq : lk_QU (mm_beg0 M t o k v) := by
    obtain ⟨m, hm, q1, q2⟩ := h.2.2.1
    refine ⟨m, hm, by rw [bp 24 1 (Or.inr rfl)]; exact q1, fun j hj => ?_⟩
    obtain ⟨y, hy, y1, y2⟩ := q2 j hj
    exact ⟨y, hy, by rw [bp 10 j (Or.inl (by decide))]; exact y1, by rw [bp 0 y (Or.inl (by decide))]; exact y2⟩
  by_cases c : o = 3
  · rw [if_pos c]
    have o3 : o' = 3 := lk_nI_inj (b := 3) (by omega) (by decide) (by rw [← eo]; exact c)
    subst o3
    unfold mm_bj
    generalize hM0 : mm_beg0 M t o k v = M0 at *
    have z0 : lk_QU (lk_st M0 15 t 0) := by
      obtain ⟨m, hm, q1, q2⟩ := bq
      refine ⟨m, hm, (lk_st_f (by decide)).trans q1, fun j hj => ?_⟩
      obtain ⟨y, hy, y1, y2⟩ := q2 j hj
      exact ⟨y, hy, (lk_st_f (by decide)).trans y1, (lk_st_f (by decide)).trans y2⟩
    have sm : lk_same M (lk_st M0 15 t 0) t := lk_same_tr bs (lk_st_same (Or.inr (Or.inr (Or.inr (Or.inl ⟨by decide, rfl⟩)))))
    by_cases c0 : nq = 0
    · rw [if_pos c0]
      have g : ∀ f i, f ≠ 15 → lk_st M0 15 t 0 f i = M0 f i := fun f i hf => lk_st_f hf
      exact lk_Inv_beg (o := 3) (k := 0) (w := 0) h ht hid (fun f i hf => (g f i (by omega)).trans (bp f i (by omega))) ((g 24 0 (by decide)).trans (bp 24 0 (Or.inr rfl))) z0 sm ((g 11 t (by decide)).trans b11) (by decide) ((g 12 t (by decide)).trans (b12.trans eo)) ((g 13 t (by decide)).trans b13) ((g 14 t (by decide)).trans b14) (by decide) lk_st_s (by decide) ((g 16 t (by decide)).trans b16) (fun i hi => (g 19 _ (by decide)).trans (b19 i hi)) (fun z => absurd z (by decide)) (fun _ => Or.inl ((g 18 t (by decide)).trans b18)) ((g 20 t (by decide)).trans (b20 t))
    · rw [if_neg c0]
      obtain ⟨hx, ex⟩ := hx0 (by omega)
      have q15 : lk_st M0 15 t 0 24 1 = nI nq := ((lk_st_f (by decide)).trans (bp 24 1 (Or.inr rfl))).trans hq
      have z1 : lk_QU (lk_lq (lk_st M0 15 t 0) (nI x) nq) := lk_lq_QU z0 q15 hnq
      have gl : ∀ f i, f ≠ 10 → f ≠ 24 → lk_lq (lk_st M0 15 t 0) (nI x) nq f i = lk_st M0 15 t 0 f i := fun f i h1 h2 => lk_lq_f h1 h2
      have g : ∀ f i, f ≠ 10 → f ≠ 24 → f ≠ 15 → lk_lq (lk_st M0 15 t 0) (nI x) nq f i = M0 f i := fun f i h1 h2 h3 => (gl f i h1 h2).trans (lk_st_f h3)
      have g24 : lk_lq (lk_st M0 15 t 0) (nI x) nq 24 0 = M 24 0 := lk_lq_r.trans ((lk_st_f (by decide)).trans (bp 24 0 (Or.inr rfl)))
      have sl : lk_same M (lk_lq (lk_st M0 15 t 0) (nI x) nq) t := lk_same_tr sm (fun u _ _ => ⟨fun f f1 f2 => gl f u (by omega) (by omega), gl 20 u (by decide) (by decide), fun i _ => gl 19 _ (by decide) (by decide)⟩)
      by_cases c1 : x = rt
      · rw [if_pos c1]
        exact lk_Inv_beg (o := 3) (k := 0) (w := 0) h ht hid (fun f i hf => (g f i (by omega) (by omega) (by omega)).trans (bp f i (by omega))) g24 z1 sl ((g 11 t (by decide) (by decide) (by decide)).trans b11) (by decide) ((g 12 t (by decide) (by decide) (by decide)).trans (b12.trans eo)) ((g 13 t (by decide) (by decide) (by decide)).trans b13) ((g 14 t (by decide) (by decide) (by decide)).trans b14) (by decide) ((gl 15 t (by decide) (by decide)).trans lk_st_s) (by decide) ((g 16 t (by decide) (by decide) (by decide)).trans b16) (fun i hi => (g 19 _ (by decide) (by decide) (by decide)).trans (b19 i hi)) (fun z => absurd z (by decide)) (fun _ => Or.inl ((g 18 t (by decide) (by decide) (by decide)).trans b18)) ((g 20 t (by decide) (by decide) (by decide)).trans (b20 t))
      · rw [if_neg c1]
        have kx : M 0 x = 1 := by
          obtain ⟨m, hm, q1, q2⟩ := h.2.2.1
          have e : m = nq := lk_nI_inj (by omega) (by omega) (q1.symm.trans hq)
          obtain ⟨y, hy, y1, y2⟩ := q2 0 (by omega)
          have : y = x := lk_nI_inj (by omega) (by omega) (y1.symm.trans ex)
          rw [← this]; exact y2
        have t1 := r2.1 x hx (lk_z1.mpr kx)
        obtain ⟨k3, hk3, ek3⟩ := lk_Int32_nat (x := M 3 x) (b := 999) (by have := t1.2.2.1; have := t1.2.2.2.1; show 0 ≤ lk_zi M 3 x; omega) t1.2.2.2.2.1
        obtain ⟨v1, hv1, ev1⟩ := lk_lvl r2 hx kx
        have s : ∀ f i, f ≠ 18 → f ≠ 15 → f ≠ 16 → lk_st (lk_st (lk_st (lk_lq (lk_st M0 15 t 0) (nI x) nq) 18 t (nI x)) 15 t (M0 3 x)) 16 t (M0 1 x + 1) f i = lk_lq (lk_st M0 15 t 0) (nI x) nq f i := fun f i h1 h2 h3 => (lk_st_f h3).trans ((lk_st_f h2).trans (lk_st_f h1))
        have zz : lk_QU (lk_st (lk_st (lk_st (lk_lq (lk_st M0 15 t 0) (nI x) nq) 18 t (nI x)) 15 t (M0 3 x)) 16 t (M0 1 x + 1)) := by
          obtain ⟨m, hm, q1, q2⟩ := z1
          refine ⟨m, hm, (s 24 1 (by decide) (by decide) (by decide)).trans q1, fun j hj => ?_⟩
          obtain ⟨y, hy, y1, y2⟩ := q2 j hj
          exact ⟨y, hy, (s 10 j (by decide) (by decide) (by decide)).trans y1, (s 0 y (by decide) (by decide) (by decide)).trans y2⟩
        have sx : lk_same M (lk_st (lk_st (lk_st (lk_lq (lk_st M0 15 t 0) (nI x) nq) 18 t (nI x)) 15 t (M0 3 x)) 16 t (M0 1 x + 1)) t := lk_same_tr (lk_same_tr (lk_same_tr sl (lk_st_same (Or.inr (Or.inr (Or.inr (Or.inl ⟨by decide, rfl⟩)))))) (lk_st_same (Or.inr (Or.inr (Or.inr (Or.inl ⟨by decide, rfl⟩)))))) (lk_st_same (Or.inr (Or.inr (Or.inr (Or.inl ⟨by decide, rfl⟩)))))
        exact lk_Inv_beg (o := 3) (k := k3) (w := v1 + 1) h ht hid (fun f i hf => (s f i (by omega) (by omega) (by omega)).trans ((g f i (by omega) (by omega) (by omega)).trans (bp f i (by omega)))) ((s 24 0 (by decide) (by decide) (by decide)).trans g24) zz sx ((s 11 t (by decide) (by decide) (by decide)).trans ((g 11 t (by decide) (by decide) (by decide)).trans b11)) (by decide) ((s 12 t (by decide) (by decide) (by decide)).trans ((g 12 t (by decide) (by decide) (by decide)).trans (b12.trans eo))) ((s 13 t (by decide) (by decide) (by decide)).trans ((g 13 t (by decide) (by decide) (by decide)).trans b13)) ((s 14 t (by decide) (by decide) (by decide)).trans ((g 14 t (by decide) (by decide) (by decide)).trans b14)) hk3 ((lk_st_f (by decide)).trans (lk_st_s.trans ((bp 3 x (by omega)).trans ek3))) (by omega) (lk_st_s.trans (by rw [bp 1 x (by omega), ev1, nI_1])) (fun i hi => (s 19 _ (by decide) (by decide) (by decide)).trans ((g 19 _ (by decide) (by decide) (by decide)).trans (b19 i hi))) (fun z => absurd z (by decide)) (fun _ => Or.inr ⟨x, hx, (lk_st_f (by decide)).trans ((lk_st_f (by decide)).trans lk_st_s), by omega⟩) ((s 20 t (by decide) (by decide) (by decide)).trans ((g 20 t (by decide) (by decide) (by decide)).trans (b20 t)))
  · rw [if_neg c]
    have hk2 : 0 ≤ k ∧ k ≤ 999 := by
      rcases hk with z | z
      · exact absurd z c
      · exact z
    obtain ⟨k', hk', ek⟩ := lk_Int32_nat (x := k) (b := 999) (by have := Int32.le_iff_toInt_le.mp hk2.1; exact this) (by have := Int32.le_iff_toInt_le.mp hk2.2; exact this)
    refine lk_Inv_beg (o := o') (k := k') (w := 0) h ht hid (fun f i hf => bp f i (by omega)) (bp 24 0 (Or.inr rfl)) bq bs b11 ho' (b12.trans eo) b13 b14 hk' (b15.trans ek) (by decide) b16 b19 (fun _ => rfl) (fun z => ?_) (b20 t)
    exact absurd (by rw [eo, z]; rfl) c
/-- the first memory -/
theorem lk_I_at (f i : Nat) : mm_I 24 f i = if f = 6 then (if i < 24 then -1 else 0) else if f = 4 ∧ i = 0 then -1 else if f = 3 ∧ i = 0 then 999 else if f = 2 ∧ i = 0 then -1 else if f = 0 ∧ i = 0 then 1 else 0 := by
  unfold mm_I mm_Z
  simp only [lk_st_eq, lk_up_eq]
theorem lk_I_k {x : Nat} (h : mm_I 24 0 x = 1) : x = 0 := by
  rw [lk_I_at] at h
  by_cases c : x = 0
  · exact c
  · rw [if_neg (by decide), if_neg (by omega), if_neg (by omega), if_neg (by omega), if_neg (by omega)] at h
    exact absurd h (by decide)
theorem lk_Inv_I : lk_Inv (mm_I 24) := by
  have k0 : mm_I 24 0 0 = 1 := by rw [lk_I_at]; simp
  have z : ∀ x, lk_zi (mm_I 24) 0 x = 1 → x = 0 := fun x hx => lk_I_k (lk_z1.mp hx)
  have e1 : lk_zi (mm_I 24) 1 0 = 0 := by unfold lk_zi; rw [lk_I_at]; simp
  have e2 : lk_zi (mm_I 24) 2 0 = -1 := by unfold lk_zi; rw [lk_I_at]; simp
  have e3 : lk_zi (mm_I 24) 3 0 = 999 := by unfold lk_zi; rw [lk_I_at]; decide
  have e4 : lk_zi (mm_I 24) 4 0 = -1 := by unfold lk_zi; rw [lk_I_at]; decide
  have e5 : lk_zi (mm_I 24) 5 0 = 0 := by unfold lk_zi; rw [lk_I_at]; simp
  refine ⟨⟨0, ?_, ?_, ?_, ?_, ?_, ?_, ?_, ?_⟩, ?_, ?_, ?_, ?_, ?_, ?_, ?_, ?_⟩
  · rw [lk_I_at]; decide
  · intro p hp k
    rw [z p k, e1, e2, e3, e4, e5]
    decide
  · intro p hp k r
    rw [z p k] at r
    exact absurd e4 r
  · intro p hp k i hi
    rw [z p k, e5] at hi
    omega
  · intro p hp k l
    rw [z p k, e1] at l
    omega
  · intro p hp k l
    rw [z p k, e1] at l
    omega
  · intro p q hp hq kp kq _ ne
    exact absurd ((z p kp).trans (z q kq).symm) ne
  · exact ⟨by decide, lk_z1.mpr k0, e2⟩
  · intro p hp k
    rw [lk_I_k k]
    exact ⟨0, by decide, by rw [lk_I_at]; decide⟩
  · exact ⟨0, by decide, by rw [lk_I_at]; decide, fun i hi => absurd hi (Nat.not_lt_zero _)⟩
  · intro p hp
    left
    rw [lk_I_at, if_pos rfl, if_pos hp]
  · intro p hp k
    rw [lk_I_at] at k
    by_cases c : p = 0
    · subst c; exact absurd k (by decide)
    · rw [if_neg (by decide), if_neg (by omega), if_neg (by omega), if_neg (by omega), if_neg (by omega)] at k
      exact absurd k (by decide)
  · intro p hp
    rw [lk_I_at]
    by_cases c : p = 0
    · subst c; exact Or.inr (Or.inl (by decide))
    · rw [if_neg (by decide), if_neg (by omega), if_neg (by omega), if_neg (by omega), if_neg (by omega)]
      exact Or.inl rfl
  · intro t ht
    rw [lk_I_at, lk_I_at]
    exact ⟨Or.inl (by simp), Or.inl (by simp)⟩
  · intro t ht hb
    rw [lk_I_at] at hb
    exact absurd hb (by simp)
  · intro t u _ _ _ hb
    rw [lk_I_at] at hb
    exact absurd hb (by simp)
/-- what a step wants -/
theorem lk_spre_ex {M : lk_M} {t : Nat} (h : lk_Inv M) (ht : t < 4) (hb : M 11 t = 1) : ∃ p n v rt nq x a b na nb, lk_spre M t p n v rt nq x a b na nb := by
  obtain ⟨rt, r1, r2⟩ := h.1
  obtain ⟨nq, hnq, hq, -⟩ := h.2.2.1
  have hrt := (lk_root r2).1
  have hk := lk_TKof h ht hb
  obtain ⟨p, hp, hpl, hal, hlv⟩ := hk.2.2.2.2.1
  by_cases kp : M 0 p = 1
  · obtain ⟨n, hn, h5⟩ := lk_n4 h hp kp
    obtain ⟨v, hv2, hv⟩ := lk_lvl r2 hp kp
    have base : ∀ x a b na nb, (¬ M 13 t = 0 → ¬ M 13 t = 1 → lk_hpre M t p n v rt nq x a b na nb) → ∃ p n v rt nq x a b na nb, lk_spre M t p n v rt nq x a b na nb := fun x a b na nb hh => ⟨p, n, v, rt, nq, x, a, b, na, nb, ht, hp, hpl, hrt, r1, hnq, hq, fun _ => ⟨h5, hn, hv, hv2, kp⟩, hh⟩
    by_cases c0 : M 13 t = 0
    · exact base 0 0 0 0 0 (fun z => absurd c0 z)
    · by_cases c1 : M 13 t = 1
      · exact base 0 0 0 0 0 (fun _ z => absurd c1 z)
      · have lw : M 1 p = M 16 t := hlv c0 kp
        have posw : M 16 t ≠ 0 → 0 < (M 1 p).toInt := fun w0 => by
          have a : 0 ≤ (M 1 p).toInt := (r2.1 p hp (lk_z1.mpr kp)).1
          have b : (M 1 p).toInt ≠ 0 := fun z => w0 (by rw [← lw]; exact (lk_z _ 0 (by decide)).mp z)
          omega
        have hpo : ¬ M 3 p < M 15 t → M 12 t = 4 → lk_at M p n (M 15 t) < n := fun z o4 => lk_atlt r2 hp kp hn h5 (posw (hk.2.2.2.2.2.2.2.2.2 o4).1) z
        by_cases o3 : M 12 t = 3
        · rcases hk.2.2.2.2.2.2.2.2.1 o3 with ⟨-, z⟩ | ⟨x, hx, e18, w0⟩
          · exact absurd z c0
          · have lp := posw w0
            have n1 : 1 ≤ n := by
              have := (r2.2.2.2.1 p hp (lk_z1.mpr kp) lp).1
              rw [lk_zi_n h5 (by omega)] at this
              omega
            by_cases cj : lk_ch M p n (nI x) < n ∧ 2 ≤ n
            · have ji := lk_ji_lt cj.1 cj.2
              obtain ⟨a, ha, ea, ka, la⟩ := lk_child r2 hp kp hn h5 lp (i := lk_ji (lk_ch M p n (nI x)) n) (by omega)
              obtain ⟨b, hb2, eb, kb, lb⟩ := lk_child r2 hp kp hn h5 lp (i := lk_ji (lk_ch M p n (nI x)) n + 1) (by omega)
              obtain ⟨na, hna, h5a⟩ := lk_n4 h ha ka
              obtain ⟨nb, hnb, h5b⟩ := lk_n4 h hb2 kb
              have ne : a ≠ b := fun z => by
                have := (lk_uniq r2 hp hp (lk_z1.mpr kp) (lk_z1.mpr kp) lp lp (i := lk_ji (lk_ch M p n (nI x)) n) (j := lk_ji (lk_ch M p n (nI x)) n + 1) (by rw [lk_zi_n h5 (by omega)]; omega) (by rw [lk_zi_n h5 (by omega)]; omega) (by
                  show (M 8 _).toInt = (M 8 _).toInt
                  rw [ea, eb, z])).2
                omega
              refine base x a b na nb (fun _ _ => ⟨ht, hp, hpl, hrt, r1, hnq, hq, fun _ => ⟨h5, hn, hv, hv2, kp⟩, fun _ => hpo, fun _ _ _ _ _ => ⟨hx, e18, n1, fun _ _ => ⟨ea, eb, ha, hb2, ne, fun z => ?_, fun z => ?_, h5a, h5b, hna, hnb⟩⟩⟩)
              · rw [z] at la; omega
              · rw [z] at lb; omega
            · exact base x 0 0 0 0 (fun _ _ => ⟨ht, hp, hpl, hrt, r1, hnq, hq, fun _ => ⟨h5, hn, hv, hv2, kp⟩, fun _ => hpo, fun _ _ _ _ _ => ⟨hx, e18, n1, fun z1 z2 => absurd ⟨z1, z2⟩ cj⟩⟩)
        · refine base 0 0 0 0 0 (fun _ _ => ⟨ht, hp, hpl, hrt, r1, hnq, hq, fun _ => ⟨h5, hn, hv, hv2, kp⟩, fun _ => hpo, fun _ _ z1 z4 z2 => ?_⟩)
          exfalso
          obtain ⟨o, ho, eo⟩ := hk.1
          have o0 : o ≠ 0 := fun z => by
            rw [z] at eo
            exact c0 (hk.2.2.2.2.2.2.2.1 eo)
          have o1 : o ≠ 1 := fun z => z1 (by rw [eo, z]; rfl)
          have o2 : o ≠ 2 := fun z => z2 (by rw [eo, z]; rfl)
          have o4 : o ≠ 4 := fun z => z4 (by rw [eo, z]; rfl)
          have : o = 3 := by omega
          exact o3 (by rw [eo, this]; rfl)
  · have lost : lk_lost M t p := Or.inl kp
    exact ⟨p, 0, 0, rt, nq, 0, 0, 0, 0, 0, ht, hp, hpl, hrt, r1, hnq, hq, fun z => absurd lost z, fun _ _ => ⟨ht, hp, hpl, hrt, r1, hnq, hq, fun z => absurd lost z, fun z => absurd lost z, fun z => absurd lost z⟩⟩
theorem lk_tw_of {M : lk_M} (h : lk_Inv M) : ∀ (f p : Nat), f < 24 → p < 24 → M 0 p = 1 → M 1 p = nI f → lk_tw M f p := by
  obtain ⟨rt, r1, r2⟩ := h.1
  intro f
  induction f with
  | zero =>
    intro p _ hp kp e
    obtain ⟨n, hn, h5⟩ := lk_n4 h hp kp
    exact ⟨hp, kp, e, n, hn, h5⟩
  | succ f ih =>
    intro p hf hp kp e
    obtain ⟨n, hn, h5⟩ := lk_n4 h hp kp
    refine ⟨hp, kp, e, n, hn, h5, fun i hi => ?_⟩
    obtain ⟨c, hc, ec, kc, lc⟩ := lk_child r2 hp kp hn h5 (by rw [e, nI_toInt (by omega)]; omega) hi
    refine ⟨c, ec, ih c (by omega) hc kc ?_⟩
    rw [e, nI_toInt (by omega)] at lc
    exact (lk_z _ f (by omega)).mp (by omega)
