/-! a new root; an entry goes; a search -/
theorem lk_Inv_nr {M : lk_M} {t rt q : Nat} (h : lk_Inv M) (ht : t < 4) (hb : M 11 t = 1) (h0 : M 13 t = 0) (r1 : M 24 0 = nI rt) (r2 : lk_TR M rt) (hq : q < 24) (kq : M 0 q = 0) : lk_Inv (lk_nr M t rt q) := by
  have hk := lk_TKof h ht hb
  have kq1 : M 0 q ≠ 1 := by rw [kq]; decide
  obtain ⟨q1, q2, q3⟩ := lk_root r2
  have hf : ∀ f i, 8 < f → f ≠ 14 → f ≠ 24 ∨ i ≠ 0 → lk_nr M t rt q f i = M f i := fun f i a b c => lk_nr_f a b c
  have s0 : ∀ x, M 0 x ≠ 0 → lk_nr M t rt q 0 x = M 0 x := fun x hx => by
    rw [lk_nr_0, if_neg (fun z => hx (by rw [z]; exact kq))]
  have sub : ∀ y, y ≠ rt → y < 24 → lk_nc M y → lk_nc (lk_nr M t rt q) y := by
    intro y hy hy2 nc
    refine lk_nc_sub nc (fun x i hx kx lx hi => ?_)
    unfold lk_zi lk_zf at *
    rw [lk_nr_0] at kx
    rw [lk_nr_1] at lx
    rw [lk_nr_5] at hi
    rw [lk_nr_8]
    by_cases e : x = q
    · left
      rw [if_pos e, nI_toInt (by decide)] at hi
      rw [if_pos (by omega), nI_toInt (by omega)]
      omega
    · right
      rw [if_neg e] at kx lx hi
      have i5 := lk_n5 r2 hx kx hi
      exact ⟨x, i, hx, kx, lx, hi, by rw [if_neg (by omega)]⟩
  have lo_ne : ∀ u y, u < 4 → M 11 u = 1 → M 2 y = M 15 u → y ≠ rt := fun u y hu hb2 e2 z => by
    have a := lk_key0 (lk_TKof h hu hb2)
    rw [← e2, z, q3] at a
    omega
  have ev : lk_Ev M (lk_nr M t rt q) t := by
    refine lk_Ev_of lk_nr_same (fun x hx k => ?_) (fun x hx k => ?_) (fun u y hu hn hb2 ho hy e18 k nc e2 => ?_)
    · have : x ≠ q := fun z => by rw [z] at k; exact kq1 k
      rw [lk_nr_0, lk_nr_1, if_neg this, if_neg this]; exact ⟨k, rfl⟩
    · have : x ≠ q := fun z => by rw [z, kq] at k; exact absurd k (by decide)
      rw [lk_nr_0, if_neg this]; exact ⟨k, hf 9 x (by decide) (by decide) (Or.inl (by decide))⟩
    · have : y ≠ q := fun z => by rw [z] at k; exact kq1 k
      rw [lk_nr_2, if_neg this]; exact ⟨rfl, sub y (lo_ne u y hu hb2 e2) hy nc⟩
  have ti : lk_TI (lk_nr M t rt q) := by
    refine lk_TI_of (lk_Inv_TI h) ⟨q, lk_nr_24, lk_nr_TR r2 hq kq1⟩ (fun x hx k => ?_) (fun x hx => ?_) (fun x _ => hf 9 x (by decide) (by decide) (Or.inl (by decide))) (fun x => hf 10 x (by decide) (by decide) (Or.inl (by decide))) (hf 24 1 (by decide) (by decide) (Or.inr (by decide)))
    · rw [lk_nr_0] at k
      rw [lk_nr_5]
      by_cases e : x = q
      · rw [if_pos e]; exact ⟨1, by decide, rfl⟩
      · rw [if_neg e] at k ⊢; exact h.2.1 x hx k
    · rw [lk_nr_0]
      by_cases e : x = q
      · rw [if_pos e]; exact Or.inr rfl
      · rw [if_neg e]; exact Or.inl rfl
  have e6 : ∀ x, lk_nr M t rt q 6 x = M 6 x := fun x => by
    rw [lk_nr_6]
    by_cases e : x = q
    · rw [if_pos e, e]; exact (lk_free_own h hq kq).symm
    · rw [if_neg e]
  have al : ∀ x, lk_al M t x → lk_al (lk_nr M t rt q) t x := fun x a => by
    unfold lk_al at a ⊢
    rcases a with a | ⟨a, b⟩
    · left; rw [s0 x (by rw [a]; decide)]; exact a
    · right; rw [s0 x (by rw [a]; decide), hf 9 x (by decide) (by decide) (Or.inl (by decide))]; exact ⟨a, b⟩
  have e11 := hf 11 t (by decide) (by decide) (Or.inl (by decide))
  have e12 := hf 12 t (by decide) (by decide) (Or.inl (by decide))
  have e13 := hf 13 t (by decide) (by decide) (Or.inl (by decide))
  have e15 := hf 15 t (by decide) (by decide) (Or.inl (by decide))
  have e16 := hf 16 t (by decide) (by decide) (Or.inl (by decide))
  have e18 := hf 18 t (by decide) (by decide) (Or.inl (by decide))
  have e20 := hf 20 t (by decide) (by decide) (Or.inl (by decide))
  refine lk_Inv_step h ht ev ti (lk_OW_go h.2.2.2.1 ht ev.1 e6 (by rw [h0]; decide)) ?_ (fun _ => ?_) ?_
  · rw [e11, e20]; exact h.2.2.2.2.2.2.1 t ht
  · obtain ⟨k1, k2, k3, k4, -, k8, k9, k10, k11, k12⟩ := hk
    refine ⟨by rw [e12]; exact k1, by rw [e13]; exact k2, by rw [e15]; exact k3, by rw [e16]; exact k4, ⟨q, hq, lk_nr_14, Or.inl (by rw [lk_nr_0, if_pos rfl]), fun z => absurd (e13.trans h0) z⟩, fun i hi => ?_, by rw [e12, e16]; exact k9, by rw [e12, e13]; exact k10, by rw [e12, e13, e16, e18]; exact k11, ?_⟩
    · rw [hf 19 _ (by decide) (by decide) (Or.inl (by decide))]
      rcases k8 i hi with z | ⟨x, hx, z1, z2⟩
      · exact Or.inl z
      · exact Or.inr ⟨x, hx, z1, al x z2⟩
    · rw [e12]
      intro z
      obtain ⟨w0, y, y1, y2, y3, y4, y5, y6⟩ := k12 z
      have : y ≠ q := fun z => by rw [z] at y3; exact kq1 y3
      refine ⟨by rw [e16]; exact w0, y, y1, by rw [e18]; exact y2, by rw [lk_nr_0, if_neg this]; exact y3, by rw [lk_nr_1, if_neg this, e16]; exact y4, by rw [lk_nr_2, if_neg this, e15]; exact y5, sub y (lo_ne t y ht hb y5) y1 y6⟩
  · rw [e11, e12, e18]
    intro b o u hu hn bu ou
    exact h.2.2.2.2.2.2.2.2 t u ht hu (fun z => hn z.symm) b bu o ou
theorem lk_Inv_rises {M : lk_M} {t rt : Nat} (h : lk_Inv M) (ht : t < 4) (hb : M 11 t = 1) (h0 : M 13 t = 0) (r1 : M 24 0 = nI rt) (r2 : lk_TR M rt) : lk_Inv (mm_rises M t rt).2 := by
  have h2 : M 13 t ≠ 2 := by rw [h0]; decide
  have fin : ∀ a, lk_Inv (mm_fin M t a) := fun a => lk_Inv_fin h ht (lk_Ev_rf M t) (lk_Inv_TI h) (fun _ => rfl) h2
  unfold mm_rises
  by_cases c1 : M 12 t = 3
  · rw [if_pos c1]; exact fin 0
  · rw [if_neg c1]
    by_cases c2 : M 1 rt < M 16 t
    · rw [if_pos c2]
      by_cases c3 : lk_free M < 24
      · rw [if_pos c3]; exact lk_Inv_nr h ht hb h0 r1 r2 c3 (lk_free_0 c3)
      · rw [if_neg c3]; exact fin (-1)
    · rw [if_neg c2]; exact lk_Inv_rst h ht hb h2
theorem lk_Inv_searches {M : lk_M} {t p n v rt : Nat} (h : lk_Inv M) (ht : t < 4) (hp : p < 24) (hb : M 11 t = 1) (hpl : M 14 t = nI p) (h0 : M 13 t = 0) (r1 : M 24 0 = nI rt) (r2 : lk_TR M rt) (hh : ¬ lk_lost M t p → M 5 p = nI n ∧ n ≤ 4 ∧ M 1 p = nI v ∧ v ≤ 23 ∧ M 0 p = 1) : lk_Inv (mm_searches M t p n v rt).2 := by
  have h2 : M 13 t ≠ 2 := by rw [h0]; decide
  have fin : ∀ a, lk_Inv (mm_fin M t a) := fun a => lk_Inv_fin h ht (lk_Ev_rf M t) (lk_Inv_TI h) (fun _ => rfl) h2
  unfold mm_searches
  by_cases c1 : M 12 t = 3 ∧ M 18 t = -1
  · rw [if_pos c1]; exact fin 0
  · rw [if_neg c1]
    by_cases c2 : lk_lost M t p
    · rw [if_pos c2]; exact lk_Inv_rst h ht hb h2
    · rw [if_neg c2]
      obtain ⟨h5, hn, hv, hv2, kp⟩ := hh c2
      by_cases c3 : M 3 p < M 15 t
      · rw [if_pos c3]; exact lk_Inv_rgt h ht hp hb h0 kp c3
      · rw [if_neg c3]
        by_cases c4 : M 16 t < M 1 p
        · rw [if_pos c4]; exact (lk_Inv_down h ht hp hb h0 kp hn h5 hv2 hv c3 c4).1
        · rw [if_neg c4]
          by_cases c5 : M 1 p < M 16 t
          · rw [if_pos c5]; exact lk_Inv_rises h ht hb h0 r1 r2
          · rw [if_neg c5]
            by_cases c6 : M 12 t = 0
            · rw [if_pos c6]; exact fin _
            · rw [if_neg c6]
              refine lk_Inv_found h ht hb hpl hp h0 kp ?_ c6 c1
              rw [Int32.lt_iff_toInt_lt] at c4 c5
              exact Int32.toInt_inj.mp (by omega)
/-- the queue takes a page -/
theorem lk_cq_f {M : lk_M} {x : Int32} {n f i : Nat} (h10 : f ≠ 10) (h24 : f ≠ 24 ∨ i ≠ 1) : lk_cq M x n f i = M f i := by
  unfold lk_cq
  by_cases c : lk_has (M 10) x n ∨ n = 12
  · rw [if_pos c]
  · rw [if_neg c, lk_st_eq, if_neg (by omega), lk_st_f h10]
theorem lk_cq_QU {M : lk_M} {p nq : Nat} (h : lk_QU M) (hp : p < 24) (kp : M 0 p = 1) (hq : M 24 1 = nI nq) (hnq : nq ≤ 12) : lk_QU (lk_cq M (nI p) nq) := by
  obtain ⟨n, hn, q1, q2⟩ := h
  have e : n = nq := lk_nI_inj (by omega) (by omega) (q1.symm.trans hq)
  subst e
  unfold lk_cq
  by_cases c : lk_has (M 10) (nI p) n ∨ n = 12
  · rw [if_pos c]; exact ⟨n, hn, q1, q2⟩
  · rw [if_neg c]
    have : n ≠ 12 := fun z => c (Or.inr z)
    refine ⟨n + 1, by omega, lk_st_s, fun i hi => ?_⟩
    by_cases e : i = n
    · refine ⟨p, hp, ?_, ?_⟩
      · rw [lk_st_f (by decide), e, lk_st_s]
      · rw [lk_st_f (by decide), lk_st_f (by decide)]; exact kp
    · obtain ⟨x, hx, y1, y2⟩ := q2 i (by omega)
      refine ⟨x, hx, ?_, ?_⟩
      · rw [lk_st_f (by decide), lk_st_p e]; exact y1
      · rw [lk_st_f (by decide), lk_st_f (by decide)]; exact y2
/-- steps that leave all of the pages, but perhaps the queue -/
theorem lk_TI_q {M M' : lk_M} (h : lk_TI M) (e : ∀ f i, f < 10 → M' f i = M f i) (e24 : M' 24 0 = M 24 0) (hq : lk_QU M') : lk_TI M' := by
  obtain ⟨⟨rt, h1, h2⟩, h3, -, h5, h6⟩ := h
  have g : ∀ f, f < 10 → M' f = M f := fun f hf => funext (fun i => e f i hf)
  refine ⟨⟨rt, by rw [e24]; exact h1, ?_⟩, ?_, hq, ?_, ?_⟩
  · unfold lk_TR lk_zi lk_zf at h2 ⊢
    rw [g 0 (by decide), g 1 (by decide), g 2 (by decide), g 3 (by decide), g 4 (by decide), g 5 (by decide), g 7 (by decide), g 8 (by decide)]; exact h2
  · unfold lk_N4 at h3 ⊢; rw [g 0 (by decide), g 5 (by decide)]; exact h3
  · unfold lk_AW at h5 ⊢; rw [g 0 (by decide), g 9 (by decide)]; exact h5
  · unfold lk_KD at h6 ⊢; rw [g 0 (by decide)]; exact h6
theorem lk_Ev_q {M M' : lk_M} {t : Nat} (e : ∀ f i, f < 10 → M' f i = M f i) (hs : lk_same M M' t) : lk_Ev M M' t := by
  have g : ∀ f, f < 10 → M' f = M f := fun f hf => funext (fun i => e f i hf)
  refine lk_Ev_of hs (fun x hx k => ⟨by rw [e 0 x (by decide)]; exact k, e 1 x (by decide)⟩) (fun x hx k => ⟨by rw [e 0 x (by decide)]; exact k, e 9 x (by decide)⟩) (fun u q hu hn hb ho hq e18 k nc e2 => ⟨e 2 q (by decide), lk_nc_of (fun f hf => g f (by omega)) (g 8 (by decide)) nc⟩)
theorem lk_cq_Ev {M : lk_M} {t : Nat} {x : Int32} {n : Nat} : lk_Ev M (lk_cq M x n) t :=
  lk_Ev_q (fun f i hf => lk_cq_f (by omega) (Or.inl (by omega))) (fun u _ _ => ⟨fun f a b => lk_cq_f (by omega) (Or.inl (by omega)), lk_cq_f (by decide) (Or.inl (by decide)), fun i _ => lk_cq_f (by decide) (Or.inl (by decide))⟩)
theorem lk_cq_TI {M : lk_M} {p nq : Nat} (h : lk_TI M) (hp : p < 24) (kp : M 0 p = 1) (hq : M 24 1 = nI nq) (hnq : nq ≤ 12) : lk_TI (lk_cq M (nI p) nq) :=
  lk_TI_q h (fun f i hf => lk_cq_f (by omega) (Or.inl (by omega))) (lk_cq_f (by decide) (Or.inr (by decide))) (lk_cq_QU h.2.2.1 hp kp hq hnq)
theorem lk_Inv_removes {M : lk_M} {t p n v rt nq : Nat} (h : lk_Inv M) (hh : lk_hold M t p n v rt) (ho : M 12 t = 2) (hq : M 24 1 = nI nq) (hnq : nq ≤ 12) : lk_Inv (lk_st (mm_removes M t p n rt nq).2 6 p (-1)) ∧ (mm_removes M t p n rt nq).1 ≠ 1 := by
  have l0 := lk_leaf0 hh h (Or.inr ho)
  obtain ⟨ht, hp, hb, hpl, h13, kp, lo, hi, h5, hn, hv, hv2, hl, r1, r2⟩ := hh
  have ti := lk_Inv_TI h
  unfold mm_removes
  by_cases hk : lk_hk M p n (M 15 t)
  · rw [if_pos hk]
    refine ⟨?_, by show ¬ ((2 : Int32) = 1); decide⟩
    have hj : lk_at M p n (M 15 t) < n := hk.1
    have hf : ∀ f i, f ≠ 5 → f ≠ 7 → f ≠ 8 → lk_del M p (lk_at M p n (M 15 t)) n f i = M f i := fun f i a b c => lk_del_f a b c
    have ev : lk_Ev M (lk_del M p (lk_at M p n (M 15 t)) n) t := lk_leaf_Ev r2 l0 (lk_same_ft (fun f i hf => lk_del_f (by omega) (by omega) (by omega))) hf (fun x hx => by rw [lk_del_5, if_neg hx]) (fun x i hx hi => by rw [lk_del_8 (by omega) hi, if_neg hx])
    have ti2 : lk_TI (lk_del M p (lk_at M p n (M 15 t)) n) := by
      refine lk_TI_of ti ⟨rt, by rw [hf 24 _ (by decide) (by decide) (by decide)]; exact r1, lk_del_TR r2 hp kp l0 h5 hn hj⟩ (fun x hx k => ?_) (fun x _ => Or.inl (hf 0 x (by decide) (by decide) (by decide))) (fun x _ => hf 9 x (by decide) (by decide) (by decide)) (fun x => hf 10 x (by decide) (by decide) (by decide)) (hf 24 1 (by decide) (by decide) (by decide))
      rw [hf 0 x (by decide) (by decide) (by decide)] at k
      rw [lk_del_5]
      by_cases e : x = p
      · rw [if_pos e]; exact ⟨n - 1, by omega, rfl⟩
      · rw [if_neg e]; exact h.2.1 x hx k
    by_cases c : n - 1 < 2 ∧ p ≠ rt
    · rw [if_pos c]
      exact lk_Inv_fin2 h ht hp hpl (lk_Ev_tr ev lk_cq_Ev) (lk_cq_TI ti2 hp (by rw [hf 0 p (by decide) (by decide) (by decide)]; exact kp) (by rw [hf 24 1 (by decide) (by decide) (by decide)]; exact hq) hnq) (fun x _ => (lk_cq_f (by decide) (Or.inl (by decide))).trans (hf 6 x (by decide) (by decide) (by decide)))
    · rw [if_neg c]
      exact lk_Inv_fin2 h ht hp hpl ev ti2 (fun x _ => hf 6 x (by decide) (by decide) (by decide))
  · rw [if_neg hk]
    exact ⟨lk_Inv_fin2 h ht hp hpl (lk_Ev_rf M t) ti (fun _ _ => rfl), by show ¬ ((2 : Int32) = 1); decide⟩
