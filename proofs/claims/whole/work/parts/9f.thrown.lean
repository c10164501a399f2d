/-! no step writes the reference's word for a throw -/
section Thrown
variable {M : lk_M} {t : Nat}
theorem lk_fin_24 {a : Int32} : mm_fin M t a 24 2 = M 24 2 := by rw [lk_fin_f (by decide) (by decide) (by decide) (by decide) (by decide)]
theorem lk_rises_24 {rt : Nat} : (mm_rises M t rt).2 24 2 = M 24 2 := by
  unfold mm_rises
  by_cases c1 : M 12 t = 3
  · rw [if_pos c1]; (try dsimp only); exact lk_fin_24
  · rw [if_neg c1]
    by_cases c2 : M 1 rt < M 16 t
    · rw [if_pos c2]
      by_cases c3 : lk_free M < 24
      · rw [if_pos c3]; (try dsimp only); exact lk_nr_f (t := t) (rt := rt) (q := lk_free M) (by decide) (by decide) (Or.inr (by decide))
      · rw [if_neg c3]; (try dsimp only); exact lk_fin_24
    · rw [if_neg c2]; (try dsimp only); exact lk_rst_f (by decide) (by decide) (by decide) (by decide)
theorem lk_searches_24 {p n v rt : Nat} : (mm_searches M t p n v rt).2 24 2 = M 24 2 := by
  unfold mm_searches
  by_cases c1 : M 12 t = 3 ∧ M 18 t = -1
  · rw [if_pos c1]; (try dsimp only); exact lk_fin_24
  · rw [if_neg c1]
    by_cases c2 : lk_lost M t p
    · rw [if_pos c2]; (try dsimp only); exact lk_rst_f (by decide) (by decide) (by decide) (by decide)
    · rw [if_neg c2]
      by_cases c3 : M 3 p < M 15 t
      · rw [if_pos c3]; (try dsimp only); exact (lk_st_f (by decide)).trans (lk_st_f (by decide))
      · rw [if_neg c3]
        by_cases c4 : M 16 t < M 1 p
        · rw [if_pos c4]; (try dsimp only); exact (lk_st_f (by decide)).trans (lk_st_f (by decide))
        · rw [if_neg c4]
          by_cases c5 : M 1 p < M 16 t
          · rw [if_pos c5]; (try dsimp only); exact lk_rises_24
          · rw [if_neg c5]
            by_cases c6 : M 12 t = 0
            · rw [if_pos c6]; (try dsimp only); exact lk_fin_24
            · rw [if_neg c6]; (try dsimp only); exact lk_st_f (by decide)
theorem lk_split_24 {p q v : Nat} : mm_split M t p q v 24 2 = M 24 2 := lk_split_f (by decide) (by decide) (by decide) (by decide) (by decide) (by decide) (by decide)
theorem lk_puts_24 {p n v : Nat} : (mm_puts M t p n v).2 24 2 = M 24 2 := by
  unfold mm_puts
  by_cases hk : lk_hk M p n (M 15 t)
  · rw [if_pos hk]; (try dsimp only); exact lk_fin_24.trans (lk_st_f (by decide))
  · rw [if_neg hk]
    by_cases c : n < 4
    · rw [if_pos c]; (try dsimp only); exact lk_fin_24.trans (lk_ins_f (by decide) (by decide) (by decide))
    · rw [if_neg c]
      by_cases c2 : lk_free M < 24
      · rw [if_pos c2]; (try dsimp only); exact lk_split_24.trans (lk_ins_f (by decide) (by decide) (by decide))
      · rw [if_neg c2]; (try dsimp only); exact lk_fin_24
theorem lk_posts_24 {p n v : Nat} : (mm_posts M t p n v).2 24 2 = M 24 2 := by
  unfold mm_posts
  by_cases c : n < 4
  · rw [if_pos c]; (try dsimp only); exact lk_fin_24.trans ((lk_st_f (by decide)).trans (lk_ins_f (by decide) (by decide) (by decide)))
  · rw [if_neg c]
    by_cases c2 : lk_free M < 24
    · rw [if_pos c2]; (try dsimp only); exact lk_split_24.trans ((lk_st_f (by decide)).trans (lk_ins_f (by decide) (by decide) (by decide)))
    · rw [if_neg c2]; (try dsimp only); exact lk_fin_24
theorem lk_removes_24 {p n rt nq : Nat} : (mm_removes M t p n rt nq).2 24 2 = M 24 2 := by
  unfold mm_removes
  by_cases hk : lk_hk M p n (M 15 t)
  · rw [if_pos hk]
    by_cases c : n - 1 < 2 ∧ p ≠ rt
    · rw [if_pos c]; (try dsimp only); exact lk_fin_24.trans ((lk_cq_f (by decide) (Or.inr (by decide))).trans (lk_del_f (by decide) (by decide) (by decide)))
    · rw [if_neg c]; (try dsimp only); exact lk_fin_24.trans (lk_del_f (by decide) (by decide) (by decide))
  · rw [if_neg hk]; (try dsimp only); exact lk_fin_24
theorem lk_merge_24 {p n i a b na nb rt nq : Nat} : mm_merge M t p n i a b na nb rt nq 24 2 = M 24 2 := by
  have e3 : lk_m3 M t p n i a b na nb nq 24 2 = M 24 2 := lk_m3_f (by decide) (by decide) (by decide) (by decide) (by decide) (by decide) (by decide) (by decide) (Or.inr (by decide))
  unfold mm_merge
  rw [lk_m3_e]
  by_cases c : n - 1 = 1
  · rw [if_pos c]
    unfold mm_shrinks
    by_cases c2 : p = rt ∧ lk_m3 M t p n i a b na nb nq 4 p = -1
    · rw [if_pos c2]
      (try dsimp only)
      exact (lk_die_f (Or.inl (by decide)) (Or.inl (by decide)) (by decide) (Or.inr (by decide))).trans ((lk_st_p (by decide)).trans e3)
    · rw [if_neg c2]
      exact (lk_cq_f (by decide) (Or.inr (by decide))).trans e3
  · rw [if_neg c]; (try dsimp only); exact e3
theorem lk_bl_24 {p i a b na nb : Nat} : lk_bl M p i a b na nb 24 2 = M 24 2 := by
  unfold lk_bl mm_bal
  rw [lk_st_f (by decide), lk_st_f (by decide), lk_st_f (by decide), lk_shr_f M a b na nb (by decide) (by decide) (by decide)]
theorem lk_joins_24 {p n x a b na nb rt nq c i : Nat} : (mm_joins M t p n x a b na nb rt nq c i).2 24 2 = M 24 2 := by
  unfold mm_joins
  by_cases c1 : M 0 x ≠ 1 ∨ ¬ c < n ∨ n = 1
  · rw [if_pos c1]; (try dsimp only); exact lk_fin_24
  · rw [if_neg c1]
    by_cases c2 : M 6 a ≠ -1 ∨ M 6 b ≠ -1
    · rw [if_pos c2]
    · rw [if_neg c2]
      by_cases c3 : M 3 a ≠ M 7 (5 * p + i) ∨ M 3 b ≠ M 7 (5 * p + i + 1)
      · rw [if_pos c3]; (try dsimp only); exact lk_fin_24
      · rw [if_neg c3]
        by_cases c4 : 4 < na + nb
        · rw [if_pos c4]; (try dsimp only); exact lk_fin_24.trans lk_bl_24
        · rw [if_neg c4]; (try dsimp only); exact lk_fin_24.trans lk_merge_24
theorem lk_hold0_24 {p n v rt nq x a b na nb : Nat} : (mm_hold0 M t p n v rt nq x a b na nb).2 24 2 = M 24 2 := by
  unfold mm_hold0
  by_cases c1 : lk_lost M t p
  · rw [if_pos c1]; (try dsimp only); exact lk_rst_f (by decide) (by decide) (by decide) (by decide)
  · rw [if_neg c1]
    by_cases c2 : M 3 p < M 15 t
    · rw [if_pos c2]; (try dsimp only); exact (lk_st_f (by decide)).trans ((lk_st_f (by decide)).trans (lk_st_f (by decide)))
    · rw [if_neg c2]
      by_cases c3 : M 12 t = 1
      · rw [if_pos c3]; (try dsimp only); exact lk_puts_24
      · rw [if_neg c3]
        by_cases c4 : M 12 t = 4
        · rw [if_pos c4]; (try dsimp only); exact lk_posts_24
        · rw [if_neg c4]
          by_cases c5 : M 12 t = 2
          · rw [if_pos c5]; (try dsimp only); exact lk_removes_24
          · rw [if_neg c5]; (try dsimp only); exact lk_joins_24
theorem lk_step0_24 {p n v rt nq x a b na nb : Nat} : (mm_step0 M t p n v rt nq x a b na nb).2 24 2 = M 24 2 := by
  unfold mm_step0
  by_cases c1 : M 13 t = 0
  · rw [if_pos c1]; (try dsimp only); exact lk_searches_24
  · rw [if_neg c1]
    by_cases c2 : M 13 t = 1
    · rw [if_pos c2]
      unfold mm_locks
      by_cases c3 : M 6 p = -1
      · rw [if_pos c3]; (try dsimp only); exact (lk_st_f (by decide)).trans (lk_st_f (by decide))
      · rw [if_neg c3]
    · rw [if_neg c2]
      unfold mm_holds
      by_cases c3 : (mm_hold0 M t p n v rt nq x a b na nb).1 = 1
      · rw [if_pos c3]; (try dsimp only); exact lk_hold0_24
      · rw [if_neg c3]; (try dsimp only); exact (lk_st_f (by decide)).trans lk_hold0_24
theorem lk_cnt_24 {y : Int32 × lk_M} : mm_cnt y t 24 2 = y.2 24 2 := by
  unfold mm_cnt
  by_cases c : y.1 = 1
  · rw [if_pos c]; (try dsimp only); exact (lk_st_f (by decide)).trans (lk_st_f (by decide))
  · rw [if_neg c]; (try dsimp only); exact lk_st_f (by decide)
theorem lk_beg_24 {o k v : Int32} {nq rt x : Nat} : (if o = 3 then mm_bj (mm_beg0 M t o k v) t nq rt x else mm_beg0 M t o k v) 24 2 = M 24 2 := by
  have b : mm_beg0 M t o k v 24 2 = M 24 2 := by
    rw [lk_beg_at]; repeat rw [if_neg (by omega)]
  by_cases c : o = 3
  · rw [if_pos c]
    unfold mm_bj
    have q : lk_lq (lk_st (mm_beg0 M t o k v) 15 t 0) (nI x) nq 24 2 = M 24 2 := by
      rw [lk_lq_st, lk_st_p (by decide), lk_up_eq, if_neg (by decide), lk_st_f (by decide)]; (try dsimp only); exact b
    by_cases c0 : nq = 0
    · rw [if_pos c0]; (try dsimp only); exact (lk_st_f (by decide)).trans b
    · rw [if_neg c0]
      by_cases c1 : x = rt
      · rw [if_pos c1]; (try dsimp only); exact q
      · rw [if_neg c1]; (try dsimp only); exact (lk_st_f (by decide)).trans ((lk_st_f (by decide)).trans ((lk_st_f (by decide)).trans q))
  · rw [if_neg c]; (try dsimp only); exact b
theorem lk_int_of {x : Int32} {n : Nat} (hn : n < 1000) (h : 0 ≤ x ∧ x ≤ nI n) : ∃ t, t ≤ n ∧ x = nI t := by
  have h1 := Int32.le_iff_toInt_le.mp h.1
  have h2 := Int32.le_iff_toInt_le.mp h.2
  rw [nI_toInt (by omega)] at h2
  exact lk_Int32_nat h1 h2
end Thrown
