/-! every step keeps the invariant -/
theorem lk_m3_e {M : lk_M} {t p n i a b na nb nq : Nat} : lk_st (lk_del (mm_die (lk_st (lk_st (lk_apL M a b na nb) 3 a (M 3 b)) 4 a (M 4 b)) b t nq) p i n) 8 (5 * p + i) (nI a) = lk_m3 M t p n i a b na nb nq := rfl
theorem lk_Inv_merge {M : lk_M} {t p n i a b na nb rt nq : Nat} {r : Int32} (h : lk_Inv M) (ht : t < 4) (hpl : M 14 t = nI p) (r1 : M 24 0 = nI rt) (hq : M 24 1 = nI nq) (hnq : nq ≤ 12) (h2 : lk_two M p n i a b na nb rt) (h4 : na + nb ≤ 4) : lk_Inv (lk_st (mm_fin (mm_merge M t p n i a b na nb rt nq) t r) 6 p (-1)) := by
  have ti := lk_Inv_TI h
  obtain ⟨ti3, q3⟩ := lk_m3_TI ti h2 h4 (t := t) ht r1 hq hnq
  have ev3 := lk_m3_Ev h2 h4 (t := t) (nq := nq) ht
  have tr3 := lk_m3_TR (t := t) (nq := nq) h2 h4
  obtain ⟨f1, f2, f3, f4, hab, hap, hbp, hbr, har⟩ := lk_two_facts h2
  obtain ⟨hp, kp, lp, h5, hn, hi, e1, e2, ha, hb, h5a, h5b, hna, hnb, e3, e4, tr⟩ := h2
  have g : ∀ f x, f ≠ 0 → f ≠ 3 → f ≠ 4 → f ≠ 5 → f ≠ 7 → f ≠ 8 → f ≠ 9 → f ≠ 10 → f ≠ 24 ∨ x ≠ 1 → lk_m3 M t p n i a b na nb nq f x = M f x := fun f x h0 h3 h4 h5 h7 h8 h9 h10 h24 => lk_m3_f h0 h3 h4 h5 h7 h8 h9 h10 h24
  have k3 : lk_m3 M t p n i a b na nb nq 0 p = 1 := (lk_m3_0 (Ne.symm hbp)).trans kp
  have le := lk_cmp_le (M 10) (nI b) nq
  unfold mm_merge
  rw [lk_m3_e]
  by_cases c : n - 1 = 1
  · rw [if_pos c]
    unfold mm_shrinks
    by_cases c2 : p = rt ∧ lk_m3 M t p n i a b na nb nq 4 p = -1
    · rw [if_pos c2]
      have i0 : i = 0 := by omega
      have n2 : n = 2 := by omega
      have e8 : lk_m3 M t p n i a b na nb nq 8 (5 * p) = nI a := by
        have z := lk_m3_78 (M := M) (t := t) (nq := nq) (p := p) (n := n) (i := i) (a := a) (b := b) (na := na) (nb := nb) (f := 8) (x := p) (j := 0) (Or.inr rfl) hab hap (by omega) (by omega) (by omega) (by decide)
        rw [if_pos rfl, if_pos ⟨rfl, i0.symm⟩] at z
        exact z
      rw [e8]
      generalize hσ : lk_m3 M t p n i a b na nb nq = σ at *
      have evq : lk_Ev σ (lk_st σ 24 0 (nI a)) t := lk_Ev_q (fun f x hf => lk_st_f (by omega)) (lk_st_same (Or.inr (Or.inl rfl)))
      have s24 : ∀ f x, f ≠ 24 → lk_st σ 24 0 (nI a) f x = σ f x := fun f x hf => lk_st_f hf
      have nq' : lk_st σ 24 0 (nI a) 24 1 = nI (lk_cmp (M 10) (nI b) nq).2 := (lk_st_p (by decide)).trans q3
      have evd : lk_Ev (lk_st σ 24 0 (nI a)) (mm_die (lk_st σ 24 0 (nI a)) p t (lk_cmp (M 10) (nI b) nq).2) t := by
        refine lk_die_Ev ht hp ((s24 0 p (by decide)).trans k3) (fun u y hu hn2 hb2 ho hy e18 nc e2' => ?_)
        intro z
        subst z
        rw [s24 2 y (by decide), s24 15 u (by decide), g 2 y (by decide) (by decide) (by decide) (by decide) (by decide) (by decide) (by decide) (by decide) (Or.inl (by decide)), g 15 u (by decide) (by decide) (by decide) (by decide) (by decide) (by decide) (by decide) (by decide) (Or.inl (by decide))] at e2'
        rw [s24 11 u (by decide), g 11 u (by decide) (by decide) (by decide) (by decide) (by decide) (by decide) (by decide) (by decide) (Or.inl (by decide))] at hb2
        have k0 := lk_key0 (lk_TKof h hu hb2)
        have lo := (lk_root tr).2.2
        rw [← e2', c2.1, lo] at k0
        omega
      have trd : lk_TR (mm_die (lk_st σ 24 0 (nI a)) p t (lk_cmp (M 10) (nI b) nq).2) a := by
        have z : ∀ f, f ≠ 0 → f ≠ 9 → f ≠ 10 → f ≠ 24 → mm_die (lk_st σ 24 0 (nI a)) p t (lk_cmp (M 10) (nI b) nq).2 f = σ f := fun f h0 h9 h10 h24 => funext (fun x => (lk_die_f (Or.inl h0) (Or.inl h9) h10 (Or.inl h24)).trans (s24 f x h24))
        have tr3' := tr3
        rw [← c2.1] at tr3'
        have key := lk_tr_shrink (c := a) (K' := lk_zi (mm_die (lk_st σ 24 0 (nI a)) p t (lk_cmp (M 10) (nI b) nq).2) 0) tr3' (by
            show 0 < (σ 1 p).toInt
            rw [g 1 p (by decide) (by decide) (by decide) (by decide) (by decide) (by decide) (by decide) (by decide) (Or.inl (by decide))]; exact lp) (by
            show (σ 4 p).toInt = -1
            rw [c2.2]; decide) ((lk_z _ a (by omega)).mpr (by rw [← e8]; rfl)) (fun x hx hxp => by
            unfold lk_zi
            rw [lk_die_f (Or.inr hxp) (Or.inr hxp) (by decide) (Or.inl (by decide)), s24 0 x (by decide)]) (fun w => lk_die_0 (lk_z1.mp w))
        unfold lk_TR
        unfold lk_zi lk_zf at key ⊢
        rw [z 1 (by decide) (by decide) (by decide) (by decide), z 2 (by decide) (by decide) (by decide) (by decide), z 3 (by decide) (by decide) (by decide) (by decide), z 4 (by decide) (by decide) (by decide) (by decide), z 5 (by decide) (by decide) (by decide) (by decide), z 7 (by decide) (by decide) (by decide) (by decide), z 8 (by decide) (by decide) (by decide) (by decide)]
        exact key
      obtain ⟨-, n4, qu, aw, kd⟩ := ti3
      have ak := lk_die_AK (σ := lk_st σ 24 0 (nI a)) (p := p) (t := t) (n := (lk_cmp (M 10) (nI b) nq).2) ht (fun x hx k => by
        rw [s24 0 x (by decide)] at k
        rw [s24 9 x (by decide)]; exact aw x hx k) (fun x hx => by rw [s24 0 x (by decide)]; exact kd x hx)
      have qud := lk_die_QU (σ := lk_st σ 24 0 (nI a)) (p := p) (t := t) (by
        obtain ⟨m, hm, q1, q2⟩ := qu
        refine ⟨m, hm, (lk_st_p (by decide)).trans q1, fun j hj => ?_⟩
        obtain ⟨x, hx, y1, y2⟩ := q2 j hj
        exact ⟨x, hx, (s24 10 j (by decide)).trans y1, (s24 0 x (by decide)).trans y2⟩) nq' (by omega)
      have tid : lk_TI (mm_die (lk_st σ 24 0 (nI a)) p t (lk_cmp (M 10) (nI b) nq).2) := by
        refine ⟨⟨a, ?_, trd⟩, fun x hx k => ?_, qud, ak.1, ak.2⟩
        · rw [lk_die_f (Or.inl (by decide)) (Or.inl (by decide)) (by decide) (Or.inr (by decide)), lk_st_s]
        · have hxp : x ≠ p := fun z => by rw [z] at k; exact lk_die_0 k
          rw [lk_die_f (Or.inr hxp) (Or.inr hxp) (by decide) (Or.inl (by decide)), s24 0 x (by decide)] at k
          rw [lk_die_f (Or.inr hxp) (Or.inr hxp) (by decide) (Or.inl (by decide)), s24 5 x (by decide)]
          exact n4 x hx k
      refine lk_Inv_fin2 h ht hp hpl (lk_Ev_tr (lk_Ev_tr ev3 evq) evd) tid (fun x hx => ?_)
      rw [lk_die_f (Or.inl (by decide)) (Or.inl (by decide)) (by decide) (Or.inl (by decide)), s24 6 x (by decide), g 6 x (by decide) (by decide) (by decide) (by decide) (by decide) (by decide) (by decide) (by decide) (Or.inl (by decide))]
    · rw [if_neg c2]
      exact lk_Inv_fin2 h ht hp hpl (lk_Ev_tr ev3 lk_cq_Ev) (lk_cq_TI ti3 hp k3 q3 (by omega)) (fun x _ => (lk_cq_f (by decide) (Or.inl (by decide))).trans (g 6 x (by decide) (by decide) (by decide) (by decide) (by decide) (by decide) (by decide) (by decide) (Or.inl (by decide))))
  · rw [if_neg c]
    exact lk_Inv_fin2 h ht hp hpl ev3 ti3 (fun x _ => g 6 x (by decide) (by decide) (by decide) (by decide) (by decide) (by decide) (by decide) (by decide) (Or.inl (by decide)))
theorem lk_ji_lt {c n : Nat} (hc : c < n) (hn : 2 ≤ n) : lk_ji c n + 1 < n := by
  unfold lk_ji
  by_cases e : c + 1 = n
  · rw [if_pos e]; omega
  · rw [if_neg e]; omega
theorem lk_lvl_pos {M : lk_M} {t p n v rt : Nat} (h : lk_Inv M) (hh : lk_hold M t p n v rt) (w0 : M 16 t ≠ 0) : 0 < (M 1 p).toInt := by
  obtain ⟨ht, hp, hb, hpl, h13, kp, lo, hi, h5, hn, hv, hv2, hl, r1, r2⟩ := hh
  have a := (r2.1 p hp (lk_z1.mpr kp)).1
  have b : (M 1 p).toInt ≠ 0 := fun z => w0 (by rw [← hl]; exact (lk_z _ 0 (by decide)).mp z)
  have a : 0 ≤ (M 1 p).toInt := a
  omega
/-- the join: either it waits, and all is as before, or it ends -/
theorem lk_Inv_joins {M : lk_M} {t p n v x a b na nb rt nq : Nat} (h : lk_Inv M) (hh : lk_hold M t p n v rt) (ho : M 12 t = 3) (hq : M 24 1 = nI nq) (hnq : nq ≤ 12) (hj : lk_ch M p n (nI x) < n → 2 ≤ n → M 8 (5 * p + lk_ji (lk_ch M p n (nI x)) n) = nI a ∧ M 8 (5 * p + lk_ji (lk_ch M p n (nI x)) n + 1) = nI b ∧ a < 24 ∧ b < 24 ∧ a ≠ b ∧ a ≠ p ∧ b ≠ p ∧ M 5 a = nI na ∧ M 5 b = nI nb ∧ na ≤ 4 ∧ nb ≤ 4) : mm_joins M t p n x a b na nb rt nq (lk_ch M p n (nI x)) (lk_ji (lk_ch M p n (nI x)) n) = (1, M) ∨ (lk_Inv (lk_st (mm_joins M t p n x a b na nb rt nq (lk_ch M p n (nI x)) (lk_ji (lk_ch M p n (nI x)) n)).2 6 p (-1)) ∧ (mm_joins M t p n x a b na nb rt nq (lk_ch M p n (nI x)) (lk_ji (lk_ch M p n (nI x)) n)).1 ≠ 1) := by
  have w0 : M 16 t ≠ 0 := by
    rcases (lk_TKof h hh.1 hh.2.2.1).2.2.2.2.2.2.2.2.1 ho with ⟨-, z⟩ | ⟨-, -, -, z⟩
    · rw [hh.2.2.2.2.1] at z; exact absurd z (by decide)
    · exact z
  have lp := lk_lvl_pos h hh w0
  obtain ⟨ht, hp, hb, hpl, h13, kp, lo, hi, h5, hn, hv, hv2, hl, r1, r2⟩ := hh
  have n1 : 1 ≤ n := by
    have := (r2.2.2.2.1 p hp (lk_z1.mpr kp) lp).1
    rw [lk_zi_n h5 (by omega)] at this
    omega
  have fin : ∀ r, lk_Inv (lk_st (mm_fin M t r) 6 p (-1)) := fun r => lk_Inv_fin2 h ht hp hpl (lk_Ev_rf M t) (lk_Inv_TI h) (fun _ _ => rfl)
  unfold mm_joins
  by_cases c1 : M 0 x ≠ 1 ∨ ¬ lk_ch M p n (nI x) < n ∨ n = 1
  · rw [if_pos c1]; exact Or.inr ⟨fin 0, by show ¬ ((2 : Int32) = 1); decide⟩
  · rw [if_neg c1]
    by_cases c2 : M 6 a ≠ -1 ∨ M 6 b ≠ -1
    · rw [if_pos c2]; exact Or.inl rfl
    · rw [if_neg c2]
      right
      by_cases c3 : M 3 a ≠ M 7 (5 * p + lk_ji (lk_ch M p n (nI x)) n) ∨ M 3 b ≠ M 7 (5 * p + lk_ji (lk_ch M p n (nI x)) n + 1)
      · rw [if_pos c3]; exact ⟨fin 0, by show ¬ ((2 : Int32) = 1); decide⟩
      · rw [if_neg c3]
        have cn : lk_ch M p n (nI x) < n := Decidable.not_not.mp (fun z => c1 (Or.inr (Or.inl z)))
        have cn1 : n ≠ 1 := fun z => c1 (Or.inr (Or.inr z))
        obtain ⟨j1, j2, ja, jb, -, -, -, j5a, j5b, jna, jnb⟩ := hj cn (by omega)
        have two : lk_two M p n (lk_ji (lk_ch M p n (nI x)) n) a b na nb rt := ⟨hp, kp, lp, h5, hn, lk_ji_lt cn (by omega), j1, j2, ja, jb, j5a, j5b, jna, jnb, Decidable.not_not.mp (fun z => c3 (Or.inl z)), Decidable.not_not.mp (fun z => c3 (Or.inr z)), r2⟩
        by_cases c4 : 4 < na + nb
        · rw [if_pos c4]
          exact ⟨lk_Inv_bal h ht hpl r1 two c4, by show ¬ ((2 : Int32) = 1); decide⟩
        · rw [if_neg c4]
          exact ⟨lk_Inv_merge h ht hpl r1 hq hnq two (by omega), by show ¬ ((2 : Int32) = 1); decide⟩
theorem lk_rt_of {M : lk_M} {rt : Nat} (h : lk_Inv M) (hrt : rt < 24) (r1 : M 24 0 = nI rt) : lk_TR M rt := by
  obtain ⟨rt', e, tr⟩ := h.1
  have := (lk_root tr).1
  have e2 : rt' = rt := lk_nI_inj (by omega) (by omega) (e.symm.trans r1)
  rw [← e2]; exact tr
theorem lk_Inv_holds {M : lk_M} {t p n v rt nq x a b na nb : Nat} (h : lk_Inv M) (hb : M 11 t = 1) (h13 : M 13 t = 2) (hh : lk_hpre M t p n v rt nq x a b na nb) : lk_Inv (mm_holds M t p n v rt nq x a b na nb).2 := by
  obtain ⟨ht, hp, hpl, hrt, r1, hnq, hq, hok, hpo, hjo⟩ := hh
  have r2 := lk_rt_of h hrt r1
  have fin : ∀ y : Int32 × lk_M, (lk_Inv (lk_st y.2 6 p (-1)) ∧ y.1 ≠ 1) → lk_Inv (if y.1 = 1 then y else (y.1, lk_st y.2 6 p (-1))).2 := fun y hy => by
    rw [if_neg hy.2]; exact hy.1
  unfold mm_holds
  unfold mm_hold0
  by_cases c1 : lk_lost M t p
  · rw [if_pos c1]
    exact fin _ ⟨lk_Inv_rst2 h ht hp hb hpl, by show ¬ ((0 : Int32) = 1); decide⟩
  · rw [if_neg c1]
    obtain ⟨h5, hn, hv, hv2, kp⟩ := hok c1
    by_cases c2 : M 3 p < M 15 t
    · rw [if_pos c2]
      exact fin _ ⟨lk_Inv_rgt2 h ht hp hb hpl h13 kp c2, by show ¬ ((0 : Int32) = 1); decide⟩
    · rw [if_neg c2]
      have hold : lk_hold M t p n v rt := by
        obtain ⟨x', hx', px, ax, lx⟩ := (lk_TKof h ht hb).2.2.2.2.1
        have exp : x' = p := lk_nI_inj (by omega) (by omega) (px.symm.trans hpl)
        subst exp
        refine ⟨ht, hp, hb, hpl, h13, kp, ?_, ?_, h5, hn, hv, hv2, lx (by rw [h13]; decide) kp, r1, r2⟩
        · have : ¬ M 15 t ≤ M 2 x' := fun z => c1 (Or.inr z)
          rw [Int32.le_iff_toInt_le] at this; omega
        · rw [Int32.lt_iff_toInt_lt] at c2; omega
      by_cases c3 : M 12 t = 1
      · rw [if_pos c3]; exact fin _ (lk_Inv_puts h hold c3)
      · rw [if_neg c3]
        by_cases c4 : M 12 t = 4
        · rw [if_pos c4]; exact fin _ (lk_Inv_posts h hold c4)
        · rw [if_neg c4]
          by_cases c5 : M 12 t = 2
          · rw [if_pos c5]; exact fin _ (lk_Inv_removes h hold c5 hq hnq)
          · rw [if_neg c5]
            obtain ⟨hx, e18, n1, hj⟩ := hjo c1 c2 c3 c4 c5
            have o3 : M 12 t = 3 := by
              obtain ⟨o, ho, eo⟩ := (lk_TKof h ht hb).1
              have o0 : o ≠ 0 := fun z => by
                rw [z] at eo
                have := (lk_TKof h ht hb).2.2.2.2.2.2.2.1 eo
                rw [h13] at this; exact absurd this (by decide)
              have o1 : o ≠ 1 := fun z => c3 (by rw [eo, z]; rfl)
              have o2 : o ≠ 2 := fun z => c5 (by rw [eo, z]; rfl)
              have o4 : o ≠ 4 := fun z => c4 (by rw [eo, z]; rfl)
              have : o = 3 := by omega
              rw [eo, this]; rfl
            rcases lk_Inv_joins h hold o3 hq hnq hj with z | z
            · rw [z]; exact h
            · exact fin _ z
theorem lk_Inv_step0 {M : lk_M} {t p n v rt nq x a b na nb : Nat} (h : lk_Inv M) (hb : M 11 t = 1) (hh : lk_spre M t p n v rt nq x a b na nb) : lk_Inv (mm_step0 M t p n v rt nq x a b na nb).2 := by
  obtain ⟨ht, hp, hpl, hrt, r1, hnq, hq, hok, hpo⟩ := hh
  unfold mm_step0
  by_cases c1 : M 13 t = 0
  · rw [if_pos c1]; exact lk_Inv_searches h ht hp hb hpl c1 r1 (lk_rt_of h hrt r1) hok
  · rw [if_neg c1]
    by_cases c2 : M 13 t = 1
    · rw [if_pos c2]; exact (lk_Inv_lock h ht hb hpl hp c2).1
    · rw [if_neg c2]
      refine lk_Inv_holds h hb ?_ (hpo c1 c2)
      obtain ⟨f, hf, ef⟩ := (lk_TKof h ht hb).2.1
      have f0 : f ≠ 0 := fun z => c1 (by rw [ef, z]; rfl)
      have f1 : f ≠ 1 := fun z => c2 (by rw [ef, z]; rfl)
      have : f = 2 := by omega
      rw [ef, this]; rfl
/-- the invariant says nothing of a task's value, answer, counts -/
theorem lk_Inv_cong {M M' : lk_M} (h : lk_Inv M) (e : ∀ f i, f ≤ 20 → f ≠ 17 → M' f i = M f i) (e0 : M' 24 0 = M 24 0) (e1 : M' 24 1 = M 24 1) : lk_Inv M' := by
  have g : ∀ f, f ≤ 20 → f ≠ 17 → M' f = M f := fun f a b => funext (fun i => e f i a b)
  unfold lk_Inv lk_TR lk_N4 lk_QU lk_OW lk_AW lk_KD lk_BU lk_TK lk_P2 lk_al lk_PO lk_nc lk_zi lk_zf at h ⊢
  rw [e0, e1, g 0 (by decide) (by decide), g 1 (by decide) (by decide), g 2 (by decide) (by decide), g 3 (by decide) (by decide), g 4 (by decide) (by decide), g 5 (by decide) (by decide), g 6 (by decide) (by decide), g 7 (by decide) (by decide), g 8 (by decide) (by decide), g 9 (by decide) (by decide), g 10 (by decide) (by decide), g 11 (by decide) (by decide), g 12 (by decide) (by decide), g 13 (by decide) (by decide), g 14 (by decide) (by decide), g 15 (by decide) (by decide), g 16 (by decide) (by decide), g 18 (by decide) (by decide), g 19 (by decide) (by decide), g 20 (by decide) (by decide)]
  exact h
theorem lk_Inv_cnt {y : Int32 × lk_M} {t : Nat} (h : lk_Inv y.2) : lk_Inv (mm_cnt y t) := by
  unfold mm_cnt
  by_cases c : y.1 = 1
  · rw [if_pos c]
    exact lk_Inv_cong h (fun f i hf _ => (lk_st_f (by omega)).trans (lk_st_f (by omega))) ((lk_st_f (by decide)).trans (lk_st_f (by decide))) ((lk_st_f (by decide)).trans (lk_st_f (by decide)))
  · rw [if_neg c]
    exact lk_Inv_cong h (fun f i hf _ => lk_st_f (by omega)) (lk_st_f (by decide)) (lk_st_f (by decide))
theorem lk_Inv_thr {M : lk_M} {v : Int32} (h : lk_Inv M) : lk_Inv (lk_st M 24 2 v) := lk_Inv_cong h (fun f i hf _ => lk_st_f (by omega)) (lk_st_p (by decide)) (lk_st_p (by decide))
theorem lk_Inv_op {M : lk_M} {g : Nat → Int32} (h : lk_Inv M) : lk_Inv (lk_op M g) := by
  have e : ∀ f i, f ≠ 23 → lk_op M g f i = M f i := fun f i hf => by unfold lk_op; rw [lk_up_eq, if_neg hf]
  exact lk_Inv_cong h (fun f i hf _ => e f i (by omega)) (e 24 0 (by decide)) (e 24 1 (by decide))
