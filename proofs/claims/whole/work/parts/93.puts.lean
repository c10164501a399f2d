/-! a step of a task that changes the tree keeps the invariant -/
theorem lk_TI_of {M M' : lk_M} (h : lk_TI M) (htr : ∃ rt, M' 24 0 = nI rt ∧ lk_TR M' rt) (h4 : lk_N4 M') (e0 : ∀ x, x < 24 → M' 0 x = M 0 x ∨ M' 0 x = 1) (e9 : ∀ x, x < 24 → M' 9 x = M 9 x) (e10 : ∀ i, M' 10 i = M 10 i) (eq : M' 24 1 = M 24 1) : lk_TI M' := by
  obtain ⟨-, -, ⟨n, hn, q1, q2⟩, h5, h6⟩ := h
  refine ⟨htr, h4, ⟨n, hn, by rw [eq]; exact q1, fun i hi => ?_⟩, fun x hx k => ?_, fun x hx => ?_⟩
  · obtain ⟨x, hx, y1, y2⟩ := q2 i hi
    refine ⟨x, hx, by rw [e10]; exact y1, ?_⟩
    rcases e0 x hx with e | e
    · rw [e]; exact y2
    · exact e
  · rw [e9 x hx]
    rcases e0 x hx with e | e
    · exact h5 x hx (by rw [← e]; exact k)
    · rw [e] at k; exact absurd k (by decide)
  · rcases e0 x hx with e | e
    · rw [e]; exact h6 x hx
    · exact Or.inr (Or.inl e)
/-- no one holds a free page -/
theorem lk_free_own {M : lk_M} {q : Nat} (h : lk_Inv M) (hq : q < 24) (kq : M 0 q = 0) : M 6 q = -1 := by
  rcases h.2.2.2.1 q hq with w | ⟨u, hu, w1, w2, w3, w4⟩
  · exact w
  · exfalso
    obtain ⟨x, hx, px, ax, -⟩ := (lk_TKof h hu w2).2.2.2.2.1
    have e := lk_nI_inj (by omega) (by omega) (px.symm.trans w4)
    subst e
    rcases ax with a | ⟨a, -⟩
    · rw [kq] at a; exact absurd a (by decide)
    · rw [kq] at a; exact absurd a (by decide)
theorem lk_free_0 {M : lk_M} (h : lk_free M < 24) : M 0 (lk_free M) = 0 := lk_ff_at (M 0) 0 24 0 (by show lk_free M < 0 + 24; omega)
/-- a task that posts, posts no page of low -1 -/
theorem lk_key0 {M : lk_M} {t : Nat} (hk : lk_TK M t) : 0 ≤ (M 15 t).toInt := by
  obtain ⟨k, h1, h2⟩ := hk.2.2.1
  rw [h2, nI_toInt (by omega)]
  omega
/-- stores in a leaf -/
theorem lk_leaf_Ev {M M1 : lk_M} {rt t p : Nat} (h : lk_TR M rt) (l0 : M 1 p = 0) (hs : lk_same M M1 t) (hf : ∀ f i, f ≠ 5 → f ≠ 7 → f ≠ 8 → M1 f i = M f i) (e5 : ∀ x, x ≠ p → M1 5 x = M 5 x) (e8 : ∀ x i, x ≠ p → i < 5 → M1 8 (5 * x + i) = M 8 (5 * x + i)) : lk_Ev M M1 t := by
  refine lk_Ev_of hs (fun x hx k => ⟨by rw [hf 0 x (by decide) (by decide) (by decide)]; exact k, hf 1 x (by decide) (by decide) (by decide)⟩) (fun x hx k => ⟨by rw [hf 0 x (by decide) (by decide) (by decide)]; exact k, hf 9 x (by decide) (by decide) (by decide)⟩) (fun u q hu hn hb ho hq e18 k nc e2 => ⟨hf 2 q (by decide) (by decide) (by decide), lk_nc_sub nc (fun x i hx kx lx hi => Or.inr ⟨x, i, hx, ?_⟩)⟩)
  unfold lk_zi lk_zf at *
  rw [hf 0 x (by decide) (by decide) (by decide)] at kx
  rw [hf 1 x (by decide) (by decide) (by decide)] at lx
  have hne : x ≠ p := fun z => by
    rw [z, l0] at lx
    exact absurd lx (by decide)
  rw [e5 x hne] at hi
  exact ⟨kx, lx, hi, congrArg Int32.toInt (e8 x i hne (lk_n5 h hx kx hi))⟩
theorem lk_same_ft {M M1 : lk_M} {t : Nat} (hf : ∀ f i, 10 < f → M1 f i = M f i) : lk_same M M1 t := fun u _ _ => ⟨fun f a b => hf f u (by omega), hf 20 u (by decide), fun i _ => hf 19 _ (by decide)⟩
/-- what a task that holds a page has in hand -/
def lk_hold (M : lk_M) (t p n v rt : Nat) : Prop := t < 4 ∧ p < 24 ∧ M 11 t = 1 ∧ M 14 t = nI p ∧ M 13 t = 2 ∧ M 0 p = 1 ∧ (M 2 p).toInt < (M 15 t).toInt ∧ (M 15 t).toInt ≤ (M 3 p).toInt ∧ M 5 p = nI n ∧ n ≤ 4 ∧ M 1 p = nI v ∧ v ≤ 23 ∧ M 1 p = M 16 t ∧ M 24 0 = nI rt ∧ lk_TR M rt
theorem lk_at_lt {M : lk_M} {p n : Nat} {k : Int32} : ∀ i, i < lk_at M p n k → (M 7 (5 * p + i)).toInt < k.toInt := fun i hi => Int32.lt_iff_toInt_lt.mp (lk_fr_lt (M 7) k n (5 * p) i hi)
theorem lk_at_ge {M : lk_M} {p n : Nat} {k : Int32} (h : lk_at M p n k < n) : k.toInt ≤ (M 7 (5 * p + lk_at M p n k)).toInt := Int.not_lt.mp (fun z => lk_fr_ge (M 7) k n (5 * p) h (Int32.lt_iff_toInt_lt.mpr z))
theorem lk_at_gt {M : lk_M} {p n : Nat} {k : Int32} (hno : ¬ lk_hk M p n k) (h : lk_at M p n k < n) : k.toInt < (M 7 (5 * p + lk_at M p n k)).toInt := by
  have a := lk_at_ge h
  have b : (M 7 (5 * p + lk_at M p n k)).toInt ≠ k.toInt := fun z => hno ⟨h, Int32.toInt_inj.mp z⟩
  omega
theorem lk_N4_ins {M : lk_M} {p j n : Nat} {a b : Int32} (h : lk_N4 M) (hn : n < 4) : lk_N4 (lk_ins M p j n a b) := by
  intro x hx k
  rw [lk_ins_f (by decide) (by decide) (by decide)] at k
  rw [lk_ins_5]
  by_cases e : x = p
  · rw [if_pos e]; exact ⟨n + 1, by omega, rfl⟩
  · rw [if_neg e]; exact h x hx k
theorem lk_ins_Ev {M : lk_M} {rt t p j n : Nat} {a b : Int32} (h : lk_TR M rt) (l0 : M 1 p = 0) (hn : n ≤ 4) (hj : j ≤ n) : lk_Ev M (lk_ins M p j n a b) t :=
  lk_leaf_Ev h l0 (lk_same_ft (fun f i hf => lk_ins_f (by omega) (by omega) (by omega))) (fun f i h5 h7 h8 => lk_ins_f h5 h7 h8) (fun x hx => by rw [lk_ins_5, if_neg hx]) (fun x i hx hi => by rw [lk_ins_8 hn hj hi, if_neg hx])
/-- the split, and the page is free again for others -/
theorem lk_Inv_split {M M1 : lk_M} {t p q v rt : Nat} (h : lk_Inv M) (ht : t < 4) (hp : p < 24) (hb : M 11 t = 1) (hpl : M 14 t = nI p) (hv : M 1 p = nI v) (hv2 : v ≤ 23) (kp : M 0 p = 1) (hq : q < 24) (kq : M 0 q = 0) (hev : lk_Ev M M1 t) (hf : ∀ f i, f ≠ 5 → f ≠ 7 → f ≠ 8 → M1 f i = M f i) (e5 : M1 5 p = nI 5) (e5o : ∀ x, x ≠ p → M1 5 x = M 5 x) (r1 : M 24 0 = nI rt) (r2 : lk_TR M rt) (tr1 : lk_TR M1 rt) : lk_Inv (lk_st (mm_split M1 t p q v) 6 p (-1)) := by
  have hk := lk_TKof h ht hb
  have g0 : ∀ x, M1 0 x = M 0 x := fun x => hf 0 x (by decide) (by decide) (by decide)
  have k1 : M1 0 p = 1 := (g0 p).trans kp
  have kq1 : M1 0 q ≠ 1 := by rw [g0, kq]; decide
  have hne : q ≠ p := fun z => kq1 (by rw [z]; exact k1)
  have v1 : M1 1 p = nI v := (hf 1 p (by decide) (by decide) (by decide)).trans hv
  have tr2 : lk_TR (mm_split M1 t p q v) rt := lk_split_TR tr1 hp hq k1 kq1 e5 v1
  have s0 : ∀ x, M 0 x ≠ 0 → mm_split M1 t p q v 0 x = M 0 x := fun x hx => by
    rw [lk_split_0, if_neg (fun z => hx (by rw [z]; exact kq)), g0]
  have s9 : ∀ x, mm_split M1 t p q v 9 x = M 9 x := fun x => (lk_split_f (by decide) (by decide) (by decide) (by decide) (by decide) (by decide) (by decide)).trans (hf 9 x (by decide) (by decide) (by decide))
  have s19 : ∀ x, mm_split M1 t p q v 19 x = M 19 x := fun x => (lk_split_f (by decide) (by decide) (by decide) (by decide) (by decide) (by decide) (by decide)).trans (hf 19 x (by decide) (by decide) (by decide))
  have s24 : ∀ x, mm_split M1 t p q v 24 x = M 24 x := fun x => (lk_split_f (by decide) (by decide) (by decide) (by decide) (by decide) (by decide) (by decide)).trans (hf 24 x (by decide) (by decide) (by decide))
  have s10 : ∀ x, mm_split M1 t p q v 10 x = M 10 x := fun x => (lk_split_f (by decide) (by decide) (by decide) (by decide) (by decide) (by decide) (by decide)).trans (hf 10 x (by decide) (by decide) (by decide))
  have s11 : ∀ x, mm_split M1 t p q v 11 x = M 11 x := fun x => (lk_split_f (by decide) (by decide) (by decide) (by decide) (by decide) (by decide) (by decide)).trans (hf 11 x (by decide) (by decide) (by decide))
  have s20 : ∀ x, mm_split M1 t p q v 20 x = M 20 x := fun x => (lk_split_f (by decide) (by decide) (by decide) (by decide) (by decide) (by decide) (by decide)).trans (hf 20 x (by decide) (by decide) (by decide))
  -- what the split leaves of a page's being no child
  have sub : ∀ y, lk_nc M1 y → lk_nc (mm_split M1 t p q v) y := by
    intro y nc
    refine lk_nc_sub nc (fun x i hx kx lx hi => Or.inr ?_)
    unfold lk_zi lk_zf at *
    rw [lk_split_0] at kx
    rw [lk_split_1] at lx
    rw [lk_split_5 hne] at hi
    rw [lk_split_8]
    by_cases e : x = q
    · rw [if_pos e] at lx hi
      rw [nI_toInt (by decide)] at hi
      refine ⟨p, i + 3, hp, lk_z1.mpr k1, by rw [v1]; exact lx, by rw [e5, nI_toInt (by decide)]; omega, ?_⟩
      subst e
      by_cases c : i = 1
      · rw [if_pos (by omega), c]
      · rw [if_neg (by omega), if_pos (by omega), show i = 0 by omega]
    · rw [if_neg e] at kx lx hi
      by_cases e2 : x = p
      · rw [if_pos e2, nI_toInt (by decide)] at hi
        refine ⟨x, i, hx, kx, lx, by rw [e2, e5, nI_toInt (by decide)]; omega, ?_⟩
        rw [if_neg (by omega), if_neg (by omega)]
      · rw [if_neg e2] at hi
        have i5 := lk_n5 tr1 hx kx hi
        refine ⟨x, i, hx, kx, lx, hi, ?_⟩
        rw [if_neg (by omega), if_neg (by omega)]
  have ev2 : lk_Ev M1 (mm_split M1 t p q v) t := by
    refine lk_Ev_of lk_split_same (fun x hx k => ?_) (fun x hx k => ?_) (fun u y hu hn hb ho hy e18 k nc e2 => ?_)
    · have : x ≠ q := fun z => by rw [z] at k; exact kq1 k
      rw [lk_split_0, lk_split_1, if_neg this, if_neg this]; exact ⟨k, rfl⟩
    · have : x ≠ q := fun z => by rw [z, g0, kq] at k; exact absurd k (by decide)
      rw [lk_split_0, if_neg this, s9, hf 9 x (by decide) (by decide) (by decide)]; exact ⟨k, rfl⟩
    · have : y ≠ q := fun z => by rw [z] at k; exact kq1 k
      rw [lk_split_2, if_neg this]; exact ⟨rfl, sub y nc⟩
  obtain ⟨t12, t13, t14, t15, t16, t18⟩ := lk_split_t (M := M1) (t := t) (p := p) (q := q) (v := v) ht
  have ti : lk_TI (mm_split M1 t p q v) := by
    refine lk_TI_of (lk_Inv_TI h) ⟨rt, by rw [s24]; exact r1, tr2⟩ (fun x hx k => ?_) (fun x hx => ?_) (fun x _ => s9 x) s10 (s24 1)
    · rw [lk_split_0] at k
      rw [lk_split_5 hne]
      by_cases e : x = q
      · rw [if_pos e]; exact ⟨2, by decide, rfl⟩
      · rw [if_neg e] at k ⊢
        by_cases e2 : x = p
        · rw [if_pos e2]; exact ⟨3, by decide, rfl⟩
        · rw [if_neg e2, e5o x e2]; exact h.2.1 x hx (by rw [← g0]; exact k)
    · rw [lk_split_0]
      by_cases e : x = q
      · rw [if_pos e]; exact Or.inr rfl
      · rw [if_neg e, g0]; exact Or.inl rfl
  have al : ∀ x, lk_al M t x → lk_al (mm_split M1 t p q v) t x := fun x a => by
    unfold lk_al at a ⊢
    rcases a with a | ⟨a, b⟩
    · left; rw [s0 x (by rw [a]; decide)]; exact a
    · right; rw [s0 x (by rw [a]; decide), s9]; exact ⟨a, b⟩
  refine lk_Inv_rel h ht hp hpl (lk_Ev_tr hev ev2) ti (fun x hx => ?_) ⟨by rw [s11]; exact Or.inr hb, by rw [s20]; exact (h.2.2.2.2.2.2.1 t ht).2⟩ (fun _ => ?_) (fun _ _ u hu hn hb2 ho => ?_)
  · rw [lk_split_6, hf 6 x (by decide) (by decide) (by decide)]
    by_cases e : x = q
    · rw [if_pos e, e]; exact (lk_free_own h hq kq).symm
    · rw [if_neg e]
  · obtain ⟨-, -, -, -, -, kpath, -⟩ := hk
    refine ⟨⟨4, by decide, t12⟩, ⟨0, by decide, t13⟩, ?_, ⟨v + 1, by omega, t16⟩, ?_, ?_, ?_, ?_, ?_, ?_⟩
    · rw [t15]
      have a := tr1.2.2.1 p hp (lk_z1.mpr k1) 2 (by rw [lk_zi_n e5 (by decide)]; decide)
      have b := tr1.1 p hp (lk_z1.mpr k1)
      exact lk_Int32_nat (b := 999) (by have := a.1; have := b.2.2.1; show 0 ≤ lk_zf M1 7 p 2; omega) (by have := a.2.1; have := b.2.2.2.2.1; show lk_zf M1 7 p 2 ≤ 999; omega)
    · rw [t14, hf 19 _ (by decide) (by decide) (by decide), hf 24 _ (by decide) (by decide) (by decide)]
      obtain ⟨q1, q2, -⟩ := lk_root r2
      rcases kpath (v + 1) (by omega) with z | ⟨x, hx, z1, z2⟩
      · rw [if_pos z]
        exact ⟨rt, q1, r1, al rt (Or.inl q2), fun w => absurd t13 w⟩
      · rw [if_neg (by rw [z1]; exact lk_nI_m1 (by omega))]
        exact ⟨x, hx, z1, al x z2, fun w => absurd t13 w⟩
    · intro i hi
      rw [s19]
      rcases kpath i hi with z | ⟨x, hx, z1, z2⟩
      · exact Or.inl z
      · exact Or.inr ⟨x, hx, z1, al x z2⟩
    · rw [t12]; intro z
      rcases z with z | z | z <;> exact absurd z (by decide)
    · rw [t12]; intro z; exact absurd z (by decide)
    · rw [t12]; intro z; exact absurd z (by decide)
    · intro _
      refine ⟨?_, q, hq, t18, ?_, ?_, ?_, sub q (lk_nc_free tr1 hq kq1)⟩
      · rw [t16]; exact fun z => absurd ((nI_eq (b := 0) (by omega) (by omega)).mp z) (by omega)
      · rw [lk_split_0, if_pos rfl]
      · rw [lk_split_1, if_pos rfl, t16, nI_1]
      · rw [lk_split_2, if_pos rfl, t15]
  · rw [t18]
    obtain ⟨-, y, hy, y1, y2, -⟩ := (lk_TKof h hu hb2).2.2.2.2.2.2.2.2.2 ho
    rw [y1]
    intro z
    have e := lk_nI_inj (by omega) (by omega) z
    rw [← e, kq] at y2
    exact absurd y2 (by decide)
theorem lk_leaf0 {M : lk_M} {t p n v rt : Nat} (hh : lk_hold M t p n v rt) (h : lk_Inv M) (ho : M 12 t = 1 ∨ M 12 t = 2) : M 1 p = 0 := by
  obtain ⟨ht, hp, hb, -, -, -, -, -, -, -, -, -, hl, -⟩ := hh
  rw [hl]
  exact (lk_TKof h ht hb).2.2.2.2.2.2.1 (by rcases ho with o | o; exact Or.inr (Or.inl o); exact Or.inr (Or.inr o))
/-- put -/
theorem lk_Inv_puts {M : lk_M} {t p n v rt : Nat} (h : lk_Inv M) (hh : lk_hold M t p n v rt) (ho : M 12 t = 1) : lk_Inv (lk_st (mm_puts M t p n v).2 6 p (-1)) ∧ (mm_puts M t p n v).1 ≠ 1 := by
  have l0 := lk_leaf0 hh h (Or.inl ho)
  obtain ⟨ht, hp, hb, hpl, h13, kp, lo, hi, h5, hn, hv, hv2, hl, r1, r2⟩ := hh
  have hat := lk_at_le M p n (M 15 t)
  have ti := lk_Inv_TI h
  unfold mm_puts
  by_cases hk : lk_hk M p n (M 15 t)
  · rw [if_pos hk]
    refine ⟨?_, by show ¬ ((2 : Int32) = 1); decide⟩
    show lk_Inv (lk_st (mm_fin _ t _) 6 p (-1))
    have hj : lk_at M p n (M 15 t) < 5 := by have := hk.1; omega
    have hf : ∀ f i, f ≠ 8 → lk_st M 8 (5 * p + lk_at M p n (M 15 t)) (M 17 t) f i = M f i := fun f i hf => lk_st_f hf
    refine lk_Inv_fin2 h ht hp hpl (lk_leaf_Ev r2 l0 (lk_same_ft (fun f i hf => lk_st_f (by omega))) (fun f i _ _ h8 => hf f i h8) (fun x _ => hf 5 x (by decide)) (fun x i hx hi => lk_st_p (by omega))) (lk_TI_of ti ⟨rt, by rw [hf 24 _ (by decide)]; exact r1, lk_val_TR r2 hp l0 hj⟩ (fun x hx k => ?_) (fun x _ => Or.inl (hf 0 x (by decide))) (fun x _ => hf 9 x (by decide)) (fun x => hf 10 x (by decide)) (hf 24 1 (by decide))) (fun x _ => hf 6 x (by decide))
    rw [hf 0 x (by decide)] at k
    rw [hf 5 x (by decide)]
    exact h.2.1 x hx k
  · rw [if_neg hk]
    by_cases hn4 : n < 4
    · rw [if_pos hn4]
      refine ⟨?_, by show ¬ ((2 : Int32) = 1); decide⟩
      show lk_Inv (lk_st (mm_fin _ t _) 6 p (-1))
      have hf : ∀ f i, f ≠ 5 → f ≠ 7 → f ≠ 8 → lk_ins M p (lk_at M p n (M 15 t)) n (M 15 t) (M 17 t) f i = M f i := fun f i a b c => lk_ins_f a b c
      exact lk_Inv_fin2 h ht hp hpl (lk_ins_Ev r2 l0 hn hat) (lk_TI_of ti ⟨rt, by rw [hf 24 _ (by decide) (by decide) (by decide)]; exact r1, lk_ins_TR r2 hp kp l0 h5 hn hat lo hi lk_at_lt (lk_at_gt hk)⟩ (lk_N4_ins h.2.1 hn4) (fun x _ => Or.inl (hf 0 x (by decide) (by decide) (by decide))) (fun x _ => hf 9 x (by decide) (by decide) (by decide)) (fun x => hf 10 x (by decide) (by decide) (by decide)) (hf 24 1 (by decide) (by decide) (by decide))) (fun x _ => hf 6 x (by decide) (by decide) (by decide))
    · rw [if_neg hn4]
      by_cases hfr : lk_free M < 24
      · rw [if_pos hfr]
        refine ⟨?_, by show ¬ ((3 : Int32) = 1); decide⟩
        show lk_Inv (lk_st (mm_split _ t p _ v) 6 p (-1))
        have n4 : n = 4 := by omega
        exact lk_Inv_split h ht hp hb hpl hv hv2 kp hfr (lk_free_0 hfr) (lk_ins_Ev r2 l0 hn hat) (fun f i a b c => lk_ins_f a b c) (by rw [lk_ins_5, if_pos rfl, n4]) (fun x hx => by rw [lk_ins_5, if_neg hx]) r1 r2 (lk_ins_TR r2 hp kp l0 h5 hn hat lo hi lk_at_lt (lk_at_gt hk))
      · rw [if_neg hfr]
        exact ⟨lk_Inv_fin2 h ht hp hpl (lk_Ev_rf M t) ti (fun _ _ => rfl), by show ¬ ((2 : Int32) = 1); decide⟩
/-- posts -/
theorem lk_pt_Ev {M : lk_M} {rt t p j n q : Nat} {k : Int32} (h : lk_TR M rt) (hp : p < 24) (kp : M 0 p = 1) (lp : 0 < (M 1 p).toInt) (h5 : M 5 p = nI n) (hn : n ≤ 4) (hj : j < n) (hq24 : q < 24) (hq : ∀ u y, u < 4 → u ≠ t → M 11 u = 1 → M 12 u = 4 → y < 24 → M 18 u = nI y → y ≠ q) : lk_Ev M (lk_pt M p j n q k) t := by
  have hf : ∀ f i, f ≠ 5 → f ≠ 7 → f ≠ 8 → lk_pt M p j n q k f i = M f i := fun f i a b c => lk_pt_f a b c
  refine lk_Ev_of (lk_same_ft (fun f i hf => lk_pt_f (by omega) (by omega) (by omega))) (fun x hx k => ⟨by rw [hf 0 x (by decide) (by decide) (by decide)]; exact k, hf 1 x (by decide) (by decide) (by decide)⟩) (fun x hx k => ⟨by rw [hf 0 x (by decide) (by decide) (by decide)]; exact k, hf 9 x (by decide) (by decide) (by decide)⟩) (fun u y hu hn2 hb ho hy e18 k nc e2 => ⟨hf 2 y (by decide) (by decide) (by decide), lk_nc_sub nc (fun x i hx kx lx hi => ?_)⟩)
  have hyq := hq u y hu hn2 hb ho hy e18
  rw [lk_pt_z (by decide) (by decide) (by decide)] at kx lx
  rw [lk_pt_n h5 hn] at hi
  by_cases e : x = p
  · subst e
    rw [if_pos rfl] at hi
    have N5 := lk_zi_n h5 (by omega)
    have i5 : i < 5 := by omega
    by_cases c : i = j + 1
    · left
      show (lk_pt M x j n q _ 8 (5 * x + i)).toInt ≠ _
      rw [lk_pt_8 hn hj i5, if_pos rfl, if_neg (by omega), if_pos c]
      intro z
      have := (lk_z _ y (by omega)).mp z
      exact hyq (lk_nI_inj (by omega) (by omega) this).symm
    · right
      by_cases c1 : i ≤ j
      · refine ⟨x, i, hx, kx, lx, by omega, ?_⟩
        show (lk_pt M x j n q _ 8 (5 * x + i)).toInt = _
        rw [lk_pt_8 hn hj i5, if_pos rfl, if_pos c1]; rfl
      · refine ⟨x, i - 1, hx, kx, lx, by omega, ?_⟩
        show (lk_pt M x j n q _ 8 (5 * x + i)).toInt = _
        rw [lk_pt_8 hn hj i5, if_pos rfl, if_neg c1, if_neg c, if_pos (by omega)]; rfl
  · right
    rw [if_neg e] at hi
    have i5 := lk_n5 h hx kx hi
    refine ⟨x, i, hx, kx, lx, hi, ?_⟩
    show (lk_pt M p j n q _ 8 (5 * x + i)).toInt = _
    rw [lk_pt_8 hn hj i5, if_neg e]; rfl
theorem lk_Inv_posts {M : lk_M} {t p n v rt : Nat} (h : lk_Inv M) (hh : lk_hold M t p n v rt) (ho : M 12 t = 4) : lk_Inv (lk_st (mm_posts M t p n v).2 6 p (-1)) ∧ (mm_posts M t p n v).1 ≠ 1 := by
  obtain ⟨ht, hp, hb, hpl, h13, kp, lo, hi, h5, hn, hv, hv2, hl, r1, r2⟩ := hh
  have ti := lk_Inv_TI h
  obtain ⟨w0, q, hq, q18, kq, lq, loq, nc⟩ := (lk_TKof h ht hb).2.2.2.2.2.2.2.2.2 ho
  have lp : 0 < (M 1 p).toInt := by
    have a := (r2.1 p hp (lk_z1.mpr kp)).1
    have b : (M 1 p).toInt ≠ 0 := fun z => w0 (by rw [← hl]; exact (lk_z _ 0 (by decide)).mp z)
    have a : 0 ≤ (M 1 p).toInt := a
    omega
  obtain ⟨vq, hvq, evq⟩ := lk_lvl r2 hq kq
  have lq2 : (M 1 q).toInt + 1 = (M 1 p).toInt := by
    rw [hl, ← lq, evq, nI_1, nI_toInt (by omega), nI_toInt (by omega)]; omega
  have hat := lk_atlt (k := M 15 t) r2 hp kp hn h5 lp (by rw [Int32.lt_iff_toInt_lt]; omega)
  have gt := lk_post_gt r2 hp kp lp h5 hn hq kq lq2 loq nc (by rw [Int32.lt_iff_toInt_lt]; omega) hat
  have p2 : ∀ u y, u < 4 → u ≠ t → M 11 u = 1 → M 12 u = 4 → y < 24 → M 18 u = nI y → y ≠ q := fun u y hu hn2 hb2 ho2 hy e18 z => by
    have := h.2.2.2.2.2.2.2.2 t u ht hu (fun w => hn2 w.symm) hb hb2 ho ho2
    rw [q18, e18, z] at this
    exact this rfl
  have e1 : lk_st (lk_ins M p (lk_at M p n (M 15 t)) n (M 15 t) (M 8 (5 * p + lk_at M p n (M 15 t)))) 8 (5 * p + lk_at M p n (M 15 t) + 1) (M 18 t) = lk_pt M p (lk_at M p n (M 15 t)) n q (M 15 t) := by rw [q18]; rfl
  have ev := lk_pt_Ev (k := M 15 t) r2 hp kp lp h5 hn hat hq p2
  have tr := lk_pt_TR (k := M 15 t) r2 hp kp lp h5 hn hat lo lk_at_lt gt hq kq lq2 loq
  have hf : ∀ f i, f ≠ 5 → f ≠ 7 → f ≠ 8 → lk_pt M p (lk_at M p n (M 15 t)) n q (M 15 t) f i = M f i := fun f i a b c => lk_pt_f a b c
  have h5x : ∀ x, lk_pt M p (lk_at M p n (M 15 t)) n q (M 15 t) 5 x = if x = p then nI (n + 1) else M 5 x := fun x => (lk_st_f (by decide)).trans lk_ins_5
  unfold mm_posts
  rw [e1]
  by_cases hn4 : n < 4
  · rw [if_pos hn4]
    refine ⟨?_, by show ¬ ((2 : Int32) = 1); decide⟩
    show lk_Inv (lk_st (mm_fin _ t _) 6 p (-1))
    refine lk_Inv_fin2 h ht hp hpl ev (lk_TI_of ti ⟨rt, by rw [hf 24 _ (by decide) (by decide) (by decide)]; exact r1, tr⟩ (fun x hx k => ?_) (fun x _ => Or.inl (hf 0 x (by decide) (by decide) (by decide))) (fun x _ => hf 9 x (by decide) (by decide) (by decide)) (fun x => hf 10 x (by decide) (by decide) (by decide)) (hf 24 1 (by decide) (by decide) (by decide))) (fun x _ => hf 6 x (by decide) (by decide) (by decide))
    rw [hf 0 x (by decide) (by decide) (by decide)] at k
    rw [h5x]
    by_cases e : x = p
    · rw [if_pos e]; exact ⟨n + 1, by omega, rfl⟩
    · rw [if_neg e]; exact h.2.1 x hx k
  · rw [if_neg hn4]
    by_cases hfr : lk_free M < 24
    · rw [if_pos hfr]
      refine ⟨?_, by show ¬ ((0 : Int32) = 1); decide⟩
      show lk_Inv (lk_st (mm_split _ t p _ v) 6 p (-1))
      have n4 : n = 4 := by omega
      exact lk_Inv_split h ht hp hb hpl hv hv2 kp hfr (lk_free_0 hfr) ev hf (by rw [h5x, if_pos rfl, n4]) (fun x hx => by rw [h5x, if_neg hx]) r1 r2 tr
    · rw [if_neg hfr]
      exact ⟨lk_Inv_fin2 h ht hp hpl (lk_Ev_rf M t) ti (fun _ _ => rfl), by show ¬ ((2 : Int32) = 1); decide⟩
