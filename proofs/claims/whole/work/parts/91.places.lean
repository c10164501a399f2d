/-! what the tree's steps leave at each place -/
theorem lk_5x {x p i j : Nat} (hi : i < 5) (hj : j < 5) (h : 5 * x + i = 5 * p + j) : x = p ∧ i = j := by omega
theorem lk_shR_at (f : Nat → Int32) {p j n x i : Nat} {a : Int32} (hn : n ≤ 4) (hj : j ≤ n) (hi : i < 5) : lk_shR f (5 * p + j) (5 * p + n) a (5 * x + i) = if x = p then (if i < j then f (5 * p + i) else if i = j then a else if i ≤ n then f (5 * p + (i - 1)) else f (5 * p + i)) else f (5 * x + i) := by
  unfold lk_shR
  by_cases e : x = p
  · subst e
    rw [if_pos rfl]
    by_cases c1 : i < j
    · rw [if_pos c1, if_neg (by omega), if_neg (by omega)]
    · rw [if_neg c1]
      by_cases c2 : i = j
      · rw [if_pos c2, if_pos (by omega)]
      · rw [if_neg c2, if_neg (by omega)]
        by_cases c3 : i ≤ n
        · rw [if_pos c3, if_pos (by omega)]
          congr 1
          omega
        · rw [if_neg c3, if_neg (by omega)]
  · rw [if_neg e, if_neg (by omega), if_neg (by omega)]
theorem lk_shL_at (f : Nat → Int32) {p j n x i : Nat} (hn : n ≤ 4) (hi : i < 5) : lk_shL f (5 * p + j) (5 * p + n) (5 * x + i) = if x = p then (if i < j then f (5 * p + i) else if i < n then f (5 * p + (i + 1)) else f (5 * p + i)) else f (5 * x + i) := by
  unfold lk_shL
  by_cases e : x = p
  · subst e
    rw [if_pos rfl]
    by_cases c1 : i < j
    · rw [if_pos c1, if_neg (by omega)]
    · rw [if_neg c1]
      by_cases c3 : i < n
      · rw [if_pos c3, if_pos (by omega)]
        rfl
      · rw [if_neg c3, if_neg (by omega)]
  · rw [if_neg e, if_neg (by omega)]
theorem lk_ins_7 {M : lk_M} {p j n x i : Nat} {a b : Int32} (hn : n ≤ 4) (hj : j ≤ n) (hi : i < 5) : lk_ins M p j n a b 7 (5 * x + i) = if x = p then (if i < j then M 7 (5 * p + i) else if i = j then a else if i ≤ n then M 7 (5 * p + (i - 1)) else M 7 (5 * p + i)) else M 7 (5 * x + i) := by
  rw [← lk_shR_at (M 7) hn hj hi]
  unfold lk_ins
  simp only [lk_up_eq]
  simp
theorem lk_ins_8 {M : lk_M} {p j n x i : Nat} {a b : Int32} (hn : n ≤ 4) (hj : j ≤ n) (hi : i < 5) : lk_ins M p j n a b 8 (5 * x + i) = if x = p then (if i < j then M 8 (5 * p + i) else if i = j then b else if i ≤ n then M 8 (5 * p + (i - 1)) else M 8 (5 * p + i)) else M 8 (5 * x + i) := by
  rw [← lk_shR_at (M 8) hn hj hi]
  unfold lk_ins
  simp only [lk_up_eq]
  simp
theorem lk_del_7 {M : lk_M} {p j n x i : Nat} (hn : n ≤ 5) (hi : i < 5) : lk_del M p j n 7 (5 * x + i) = if x = p then (if i < j then M 7 (5 * p + i) else if i < n - 1 then M 7 (5 * p + (i + 1)) else M 7 (5 * p + i)) else M 7 (5 * x + i) := by
  rw [← lk_shL_at (M 7) (by omega) hi]
  unfold lk_del
  simp only [lk_up_eq]
  simp
theorem lk_del_8 {M : lk_M} {p j n x i : Nat} (hn : n ≤ 5) (hi : i < 5) : lk_del M p j n 8 (5 * x + i) = if x = p then (if i < j then M 8 (5 * p + i) else if i < n - 1 then M 8 (5 * p + (i + 1)) else M 8 (5 * p + i)) else M 8 (5 * x + i) := by
  rw [← lk_shL_at (M 8) (by omega) hi]
  unfold lk_del
  simp only [lk_up_eq]
  simp
/-- a split, as stores -/
theorem lk_split_st (M : lk_M) (t p q v : Nat) : mm_split M t p q v = lk_srch (lk_st (lk_st (lk_st (lk_st (lk_st (lk_st (lk_st (lk_st (lk_st (lk_st (lk_st (lk_st (lk_st (lk_mk M q (nI v) (M 7 (5 * p + 2)) (M 3 p) (M 4 p)) 7 (5 * q + 0) (M 7 (5 * p + 3))) 8 (5 * q + 0) (M 8 (5 * p + 3))) 5 q (nI (0 + 1))) 7 (5 * q + 1) (M 7 (5 * p + 4))) 8 (5 * q + 1) (M 8 (5 * p + 4))) 5 q (nI (1 + 1))) 5 p 3) 3 p (M 7 (5 * p + 2))) 4 p (nI q)) 12 t 4) 18 t (nI q)) 15 t (M 7 (5 * p + 2))) 16 t (nI (v + 1))) t (if M 19 (32 * t + (v + 1)) = -1 then M 24 0 else M 19 (32 * t + (v + 1))) := by
  unfold mm_split
  rw [← lk_app_eq, ← lk_app_eq]
section Split
variable {M : lk_M} {t p q v i : Nat}
theorem lk_split_0 : mm_split M t p q v 0 i = if i = q then 1 else M 0 i := by
  rw [lk_split_st]; unfold lk_srch lk_mk; simp [lk_st_eq]
theorem lk_split_1 : mm_split M t p q v 1 i = if i = q then nI v else M 1 i := by
  rw [lk_split_st]; unfold lk_srch lk_mk; simp [lk_st_eq]
theorem lk_split_2 : mm_split M t p q v 2 i = if i = q then M 7 (5 * p + 2) else M 2 i := by
  rw [lk_split_st]; unfold lk_srch lk_mk; simp [lk_st_eq]
theorem lk_split_3 (h : q ≠ p) : mm_split M t p q v 3 i = if i = q then M 3 p else if i = p then M 7 (5 * p + 2) else M 3 i := by
  rw [lk_split_st]; unfold lk_srch lk_mk; simp [lk_st_eq]
  by_cases e : i = q
  · subst e; rw [if_neg h, if_pos rfl, if_pos rfl]
  · rw [if_neg e, if_neg e]
theorem lk_split_4 (h : q ≠ p) : mm_split M t p q v 4 i = if i = q then M 4 p else if i = p then nI q else M 4 i := by
  rw [lk_split_st]; unfold lk_srch lk_mk; simp [lk_st_eq]
  by_cases e : i = q
  · subst e; rw [if_neg h, if_pos rfl, if_pos rfl]
  · rw [if_neg e, if_neg e]
theorem lk_split_5 (h : q ≠ p) : mm_split M t p q v 5 i = if i = q then nI 2 else if i = p then nI 3 else M 5 i := by
  rw [lk_split_st]; unfold lk_srch lk_mk; simp [lk_st_eq]
  by_cases e : i = q
  · subst e; rw [if_neg h, if_pos rfl, if_pos rfl]
  · by_cases e2 : i = p
    · rw [if_pos e2, if_neg e, if_pos e2]; rfl
    · simp only [if_neg e2, if_neg e]
theorem lk_split_6 : mm_split M t p q v 6 i = if i = q then -1 else M 6 i := by
  rw [lk_split_st]; unfold lk_srch lk_mk; simp [lk_st_eq]
theorem lk_split_7 : mm_split M t p q v 7 i = if i = 5 * q + 1 then M 7 (5 * p + 4) else if i = 5 * q then M 7 (5 * p + 3) else M 7 i := by
  rw [lk_split_st]; unfold lk_srch lk_mk; simp [lk_st_eq]
theorem lk_split_8 : mm_split M t p q v 8 i = if i = 5 * q + 1 then M 8 (5 * p + 4) else if i = 5 * q then M 8 (5 * p + 3) else M 8 i := by
  rw [lk_split_st]; unfold lk_srch lk_mk; simp [lk_st_eq]
theorem lk_split_f {f : Nat} (h : 8 < f) (h12 : f ≠ 12) (h13 : f ≠ 13) (h14 : f ≠ 14) (h15 : f ≠ 15) (h16 : f ≠ 16) (h18 : f ≠ 18) : mm_split M t p q v f i = M f i := by
  rw [lk_split_st]; unfold lk_srch lk_mk; simp only [lk_st_eq]
  repeat rw [if_neg (by omega)]
theorem lk_split_t (h : t < 4) : mm_split M t p q v 12 t = 4 ∧ mm_split M t p q v 13 t = 0 ∧ mm_split M t p q v 14 t = (if M 19 (32 * t + (v + 1)) = -1 then M 24 0 else M 19 (32 * t + (v + 1))) ∧ mm_split M t p q v 15 t = M 7 (5 * p + 2) ∧ mm_split M t p q v 16 t = nI (v + 1) ∧ mm_split M t p q v 18 t = nI q := by
  rw [lk_split_st]; unfold lk_srch lk_mk; simp [lk_st_eq]
theorem lk_split_o {f : Nat} (h : 8 < f) (hi : i ≠ t) : mm_split M t p q v f i = M f i := by
  rw [lk_split_st]; unfold lk_srch lk_mk; simp only [lk_st_eq]
  repeat rw [if_neg (by omega)]
theorem lk_split_same : lk_same M (mm_split M t p q v) t := fun u hu hn => ⟨fun f f1 f2 => lk_split_o (by omega) hn, lk_split_o (by decide) hn, fun i hi => lk_split_f (by decide) (by decide) (by decide) (by decide) (by decide) (by decide) (by decide)⟩
end Split
/-- a new root -/
def lk_nr (M : lk_M) (t rt q : Nat) : lk_M := lk_st (lk_st (lk_ins (lk_mk M q (M 1 rt + 1) (-1) 999 (-1)) q 0 0 999 (nI rt)) 24 0 (nI q)) 14 t (nI q)
section NR
variable {M : lk_M} {t rt q i : Nat}
theorem lk_nr_st : lk_nr M t rt q = lk_st (lk_st (lk_st (lk_st (lk_st (lk_mk M q (M 1 rt + 1) (-1) 999 (-1)) 7 (5 * q + 0) 999) 8 (5 * q + 0) (nI rt)) 5 q (nI (0 + 1))) 24 0 (nI q)) 14 t (nI q) := by
  unfold lk_nr
  rw [← lk_app_eq]
theorem lk_nr_0 : lk_nr M t rt q 0 i = if i = q then 1 else M 0 i := by
  rw [lk_nr_st]; unfold lk_mk; simp [lk_st_eq]
theorem lk_nr_1 : lk_nr M t rt q 1 i = if i = q then M 1 rt + 1 else M 1 i := by
  rw [lk_nr_st]; unfold lk_mk; simp [lk_st_eq]
theorem lk_nr_2 : lk_nr M t rt q 2 i = if i = q then -1 else M 2 i := by
  rw [lk_nr_st]; unfold lk_mk; simp [lk_st_eq]
theorem lk_nr_3 : lk_nr M t rt q 3 i = if i = q then 999 else M 3 i := by
  rw [lk_nr_st]; unfold lk_mk; simp [lk_st_eq]
theorem lk_nr_4 : lk_nr M t rt q 4 i = if i = q then -1 else M 4 i := by
  rw [lk_nr_st]; unfold lk_mk; simp [lk_st_eq]
theorem lk_nr_5 : lk_nr M t rt q 5 i = if i = q then nI 1 else M 5 i := by
  rw [lk_nr_st]; unfold lk_mk; simp only [lk_st_eq]
  by_cases e : i = q
  · subst e; simp
  · simp [e]
theorem lk_nr_6 : lk_nr M t rt q 6 i = if i = q then -1 else M 6 i := by
  rw [lk_nr_st]; unfold lk_mk; simp [lk_st_eq]
theorem lk_nr_7 : lk_nr M t rt q 7 i = if i = 5 * q then 999 else M 7 i := by
  rw [lk_nr_st]; unfold lk_mk; simp [lk_st_eq]
theorem lk_nr_8 : lk_nr M t rt q 8 i = if i = 5 * q then nI rt else M 8 i := by
  rw [lk_nr_st]; unfold lk_mk; simp [lk_st_eq]
theorem lk_nr_f {f : Nat} (h : 8 < f) (h14 : f ≠ 14) (h24 : f ≠ 24 ∨ i ≠ 0) : lk_nr M t rt q f i = M f i := by
  rw [lk_nr_st]; unfold lk_mk; simp only [lk_st_eq]
  repeat rw [if_neg (by omega)]
theorem lk_nr_14 : lk_nr M t rt q 14 t = nI q := by rw [lk_nr_st]; exact lk_st_s
theorem lk_nr_24 : lk_nr M t rt q 24 0 = nI q := by
  rw [lk_nr_st]; simp [lk_st_eq]
theorem lk_nr_same : lk_same M (lk_nr M t rt q) t := fun u hu hn => ⟨fun f f1 f2 => by
    rw [lk_nr_st]; unfold lk_mk; simp only [lk_st_eq]
    repeat rw [if_neg (by omega)], lk_nr_f (by decide) (by decide) (Or.inl (by decide)), fun i hi => lk_nr_f (by decide) (by decide) (Or.inl (by decide))⟩
end NR
/-- entries of a child that are none of q stay none of q -/
theorem lk_nc_sub {M M' : lk_M} {q : Nat} (h : lk_nc M q) (hs : ∀ p i : Nat, p < 24 → lk_zi M' 0 p = 1 → 0 < lk_zi M' 1 p → (i : Int) < lk_zi M' 5 p → lk_zf M' 8 p i ≠ (q : Int) ∨ ∃ p' i' : Nat, p' < 24 ∧ lk_zi M 0 p' = 1 ∧ 0 < lk_zi M 1 p' ∧ (i' : Int) < lk_zi M 5 p' ∧ lk_zf M' 8 p i = lk_zf M 8 p' i') : lk_nc M' q := by
  intro p i hp kp lp hi
  rcases hs p i hp kp lp hi with z | ⟨p', i', a1, a2, a3, a4, a5⟩
  · exact z
  · rw [a5]; exact h p' i' a1 a2 a3 a4
/-- a page that is no node is no entry's child -/
theorem lk_nc_free {M : lk_M} {rt q : Nat} (h : lk_TR M rt) (hq : q < 24) (k : M 0 q ≠ 1) : lk_nc M q := by
  intro p i hp kp lp hi z
  obtain ⟨c, c1, c2, c3, -⟩ := h.2.2.2.2.1 p hp kp lp i hi
  have : c = q := by omega
  subst this
  exact k (lk_z1.mp c3)
theorem lk_n5 {M : lk_M} {rt p : Nat} (h : lk_TR M rt) (hp : p < 24) (k : lk_zi M 0 p = 1) {i : Nat} (hi : (i : Int) < lk_zi M 5 p) : i < 5 := by
  have := (h.1 p hp k).2.2.2.2.2.2.1
  omega
/-- of a step that leaves the kinds of what was there -/
theorem lk_Ev_of {M M' : lk_M} {t : Nat} (hs : lk_same M M' t) (hk : ∀ x, x < 24 → M 0 x = 1 → M' 0 x = 1 ∧ M' 1 x = M 1 x) (h9 : ∀ x, x < 24 → M 0 x = 2 → M' 0 x = 2 ∧ M' 9 x = M 9 x) (hq : ∀ u q, u < 4 → u ≠ t → M 11 u = 1 → M 12 u = 4 → q < 24 → M 18 u = nI q → M 0 q = 1 → lk_nc M q → M 2 q = M 15 u → M' 2 q = M 2 q ∧ lk_nc M' q) : lk_Ev M M' t := by
  refine ⟨hs, fun x hx => ⟨fun k => Or.inl (hk x hx k), fun k u _ _ _ w => ?_⟩, fun u hu hn hb ho q hq1 e18 k nc e2 => ?_⟩
  · obtain ⟨a, b⟩ := h9 x hx k
    exact ⟨a, by rw [b]; exact w⟩
  · obtain ⟨a, b⟩ := hq u q hu hn hb ho hq1 e18 k nc e2
    exact ⟨(hk q hq1 k).1, a, b⟩
