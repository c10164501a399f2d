/-! two neighbours are joined -/
/-- what is known of the two, under the page p -/
def lk_two (M : lk_M) (p n i a b na nb rt : Nat) : Prop := p < 24 ∧ M 0 p = 1 ∧ 0 < (M 1 p).toInt ∧ M 5 p = nI n ∧ n ≤ 4 ∧ i + 1 < n ∧ M 8 (5 * p + i) = nI a ∧ M 8 (5 * p + i + 1) = nI b ∧ a < 24 ∧ b < 24 ∧ M 5 a = nI na ∧ M 5 b = nI nb ∧ na ≤ 4 ∧ nb ≤ 4 ∧ M 3 a = M 7 (5 * p + i) ∧ M 3 b = M 7 (5 * p + i + 1) ∧ lk_TR M rt
theorem lk_two_pair {M : lk_M} {p n i a b na nb rt : Nat} (h : lk_two M p n i a b na nb rt) : lk_pair (lk_zi M 0) (lk_zi M 1) (lk_zi M 2) (lk_zi M 3) (lk_zi M 5) (lk_zf M 7) (lk_zf M 8) p i a b na nb := by
  obtain ⟨hp, kp, lp, h5, hn, hi, e1, e2, ha, hb, h5a, h5b, hna, hnb, e3, e4, tr⟩ := h
  refine ⟨hp, lk_z1.mpr kp, lp, ?_, (lk_z _ a (by omega)).mpr e1, (lk_z _ b (by omega)).mpr e2, congrArg Int32.toInt e3, congrArg Int32.toInt e4, lk_zi_n h5a (by omega), lk_zi_n h5b (by omega), ha, hb⟩
  rw [lk_zi_n h5 (by omega)]; omega
theorem lk_two_facts {M : lk_M} {p n i a b na nb rt : Nat} (h : lk_two M p n i a b na nb rt) : M 0 a = 1 ∧ M 0 b = 1 ∧ lk_zi M 1 a + 1 = lk_zi M 1 p ∧ lk_zi M 1 b + 1 = lk_zi M 1 p ∧ a ≠ b ∧ a ≠ p ∧ b ≠ p ∧ b ≠ rt ∧ a ≠ rt := by
  have tr := h.2.2.2.2.2.2.2.2.2.2.2.2.2.2.2.2
  obtain ⟨f1, f2, f3, f4, -, -, f5, f6, f7, f8, f9, -⟩ := lk_pair_facts tr (lk_two_pair h)
  exact ⟨lk_z1.mp f1, lk_z1.mp f2, f3, f4, f5, f6, f7, f8, f9⟩
/-- b is a child -/
theorem lk_two_nc {M : lk_M} {p n i a b na nb rt : Nat} (h : lk_two M p n i a b na nb rt) {q : Nat} (nc : lk_nc M q) : q ≠ b ∧ q ≠ a := by
  have hh := lk_two_pair h
  have := h.2.2.2.2.2.1
  obtain ⟨hp, kp, lp, hi, e1, e2, -⟩ := hh
  constructor
  · intro z; rw [z] at nc; exact nc p (i + 1) hp kp lp (by omega) e2
  · intro z; rw [z] at nc; exact nc p i hp kp lp (by omega) e1
def lk_bl (M : lk_M) (p i a b na nb : Nat) : lk_M := lk_st (mm_bal M a b na nb) 7 (5 * p + i) (lk_shr M a b na nb 7 (5 * a + (na + nb + 1) / 2 - 1))
theorem lk_bl_x {M : lk_M} {a b na nb : Nat} (hab : a ≠ b) (hna : na ≤ 4) (hnb : nb ≤ 4) (h4 : 4 < na + nb) : lk_shr M a b na nb 7 (5 * a + (na + nb + 1) / 2 - 1) = lk_ct M 7 a b na ((na + nb + 1) / 2 - 1) := by
  rw [← (lk_shr_at (M := M) (Or.inl rfl) hab hna hnb h4).1 ((na + nb + 1) / 2 - 1) (by omega)]
  congr 1
  omega
theorem lk_bl_at {M : lk_M} {p i a b na nb : Nat} (hab : a ≠ b) (hna : na ≤ 4) (hnb : nb ≤ 4) (h4 : 4 < na + nb) (f j : Nat) : lk_bl M p i a b na nb f j = if f = 7 ∧ j = 5 * p + i then lk_ct M 7 a b na ((na + nb + 1) / 2 - 1) else if f = 2 ∧ j = b then lk_ct M 7 a b na ((na + nb + 1) / 2 - 1) else if f = 3 ∧ j = a then lk_ct M 7 a b na ((na + nb + 1) / 2 - 1) else lk_shr M a b na nb f j := by
  unfold lk_bl mm_bal
  rw [lk_bl_x hab hna hnb h4]
  simp only [lk_st_eq]
theorem lk_bl_f {M : lk_M} {p i a b na nb : Nat} (hab : a ≠ b) (hna : na ≤ 4) (hnb : nb ≤ 4) (h4 : 4 < na + nb) {f j : Nat} (h2 : f ≠ 2) (h3 : f ≠ 3) (h5 : f ≠ 5) (h7 : f ≠ 7) (h8 : f ≠ 8) : lk_bl M p i a b na nb f j = M f j := by
  rw [lk_bl_at hab hna hnb h4, if_neg (by omega), if_neg (by omega), if_neg (by omega), lk_shr_f M a b na nb h5 h7 h8]
section Bal
variable {M : lk_M} {p n i a b na nb rt : Nat}
theorem lk_bl_n (h : lk_two M p n i a b na nb rt) (h4 : 4 < na + nb) (x : Nat) : lk_bl M p i a b na nb 5 x = if x = a then nI ((na + nb + 1) / 2) else if x = b then nI (na + nb - (na + nb + 1) / 2) else M 5 x := by
  obtain ⟨-, -, -, -, hab, -, -, -, -⟩ := lk_two_facts h
  obtain ⟨hp, kp, lp, h5, hn, hi, e1, e2, ha, hb, h5a, h5b, hna, hnb, e3, e4, tr⟩ := h
  rw [lk_bl_at hab hna hnb h4, if_neg (by omega), if_neg (by omega), if_neg (by omega)]
  obtain ⟨s1, s2⟩ := lk_shr_5 hab hna hnb h4 h5a h5b
  by_cases ca : x = a
  · rw [if_pos ca, ca]; exact s1
  · rw [if_neg ca]
    by_cases cb : x = b
    · rw [if_pos cb, cb]; exact s2
    · rw [if_neg cb]; exact lk_shr_5o M a b na nb ca cb
theorem lk_bl_e {f : Nat} (hf : f = 7 ∨ f = 8) (h : lk_two M p n i a b na nb rt) (h4 : 4 < na + nb) {x j : Nat} (kx : lk_zi M 0 x = 1) (hx : x < 24) (hj : (j : Int) < lk_zi (lk_bl M p i a b na nb) 5 x) : j < 5 ∧ lk_bl M p i a b na nb f (5 * x + j) = if x = a then lk_ct M f a b na j else if x = b then lk_ct M f a b na ((na + nb + 1) / 2 + j) else if f = 7 ∧ x = p ∧ j = i then lk_ct M 7 a b na ((na + nb + 1) / 2 - 1) else M f (5 * x + j) := by
  have hj : (j : Int) < (lk_bl M p i a b na nb 5 x).toInt := hj
  rw [lk_bl_n h h4] at hj
  obtain ⟨-, -, -, -, hab, hap, hbp, -, -⟩ := lk_two_facts h
  obtain ⟨hp, kp, lp, h5, hn, hi, e1, e2, ha, hb, h5a, h5b, hna, hnb, e3, e4, tr⟩ := h
  obtain ⟨s1, s2, s3⟩ := lk_shr_at (M := M) hf hab hna hnb h4
  rw [lk_bl_at hab hna hnb h4, if_neg (show ¬ (f = 2 ∧ 5 * x + j = b) by omega), if_neg (show ¬ (f = 3 ∧ 5 * x + j = a) by omega)]
  by_cases ca : x = a
  · rw [if_pos ca, nI_toInt (by omega)] at hj
    rw [if_pos ca]
    subst ca
    rw [if_neg (by omega)]
    exact ⟨by omega, s1 j (by omega)⟩
  · rw [if_neg ca] at hj ⊢
    by_cases cb : x = b
    · rw [if_pos cb, nI_toInt (by omega)] at hj
      rw [if_pos cb]
      subst cb
      rw [if_neg (by omega)]
      exact ⟨by omega, s2 j (by omega)⟩
    · rw [if_neg cb] at hj ⊢
      have j5 := lk_n5 tr hx kx hj
      refine ⟨j5, ?_⟩
      by_cases c : f = 7 ∧ x = p ∧ j = i
      · rw [if_pos c, if_pos (by omega)]
      · rw [if_neg c, if_neg (by omega)]
        exact s3 x j ca cb j5
theorem lk_bl_TR (h : lk_two M p n i a b na nb rt) (h4 : 4 < na + nb) : lk_TR (lk_bl M p i a b na nb) rt := by
  have hh := lk_two_pair h
  have tr := h.2.2.2.2.2.2.2.2.2.2.2.2.2.2.2.2
  obtain ⟨-, -, -, -, hab, hap, hbp, -, -⟩ := lk_two_facts h
  have hna := h.2.2.2.2.2.2.2.2.2.2.2.2.1
  have hnb := h.2.2.2.2.2.2.2.2.2.2.2.2.2.1
  have z : ∀ f, f ≠ 2 → f ≠ 3 → f ≠ 5 → f ≠ 7 → f ≠ 8 → lk_zi (lk_bl M p i a b na nb) f = lk_zi M f := fun f h2 h3 h5 h7 h8 => by
    funext x; unfold lk_zi; rw [lk_bl_f hab hna hnb h4 h2 h3 h5 h7 h8]
  unfold lk_TR
  rw [z 0 (by decide) (by decide) (by decide) (by decide) (by decide), z 1 (by decide) (by decide) (by decide) (by decide) (by decide), z 4 (by decide) (by decide) (by decide) (by decide) (by decide)]
  refine lk_tr_bal (half := (na + nb + 1) / 2) tr hh (by omega) (by omega) (by omega) (by omega) (fun x _ => ?_) (fun x _ => ?_) (fun x _ => ?_) (fun x hx kx j hj => ?_) (fun x hx kx j hj => ?_)
  · show (lk_bl M p i a b na nb 2 x).toInt = _
    rw [lk_bl_at hab hna hnb h4, if_neg (by omega)]
    by_cases e : x = b
    · rw [if_pos ⟨rfl, e⟩, if_pos e, lk_ct_z]
    · rw [if_neg (fun z => e z.2), if_neg (by omega), if_neg e, lk_shr_f M a b na nb (by decide) (by decide) (by decide)]; rfl
  · show (lk_bl M p i a b na nb 3 x).toInt = _
    rw [lk_bl_at hab hna hnb h4, if_neg (by omega), if_neg (by omega)]
    by_cases e : x = a
    · rw [if_pos ⟨rfl, e⟩, if_pos e, lk_ct_z]
    · rw [if_neg (fun z => e z.2), if_neg e, lk_shr_f M a b na nb (by decide) (by decide) (by decide)]; rfl
  · show (lk_bl M p i a b na nb 5 x).toInt = _
    rw [lk_bl_n h h4]
    by_cases e : x = a
    · rw [if_pos e, if_pos e, nI_toInt (by omega)]
    · rw [if_neg e, if_neg e]
      by_cases e2 : x = b
      · rw [if_pos e2, if_pos e2, nI_toInt (by omega)]; omega
      · rw [if_neg e2, if_neg e2]; rfl
  · show (lk_bl M p i a b na nb 7 (5 * x + j)).toInt = _
    rw [(lk_bl_e (Or.inl rfl) h h4 kx hx hj).2]
    by_cases e : x = a
    · rw [if_pos e, if_pos e, lk_ct_z]
    · rw [if_neg e, if_neg e]
      by_cases e2 : x = b
      · rw [if_pos e2, if_pos e2, lk_ct_z]
      · rw [if_neg e2, if_neg e2]
        by_cases c : x = p ∧ j = i
        · rw [if_pos ⟨rfl, c⟩, if_pos c, lk_ct_z]
        · rw [if_neg (fun z => c z.2), if_neg c]; rfl
  · show (lk_bl M p i a b na nb 8 (5 * x + j)).toInt = _
    rw [(lk_bl_e (Or.inr rfl) h h4 kx hx hj).2]
    by_cases e : x = a
    · rw [if_pos e, if_pos e, lk_ct_z]
    · rw [if_neg e, if_neg e]
      by_cases e2 : x = b
      · rw [if_pos e2, if_pos e2, lk_ct_z]
      · rw [if_neg e2, if_neg e2, if_neg (by omega)]; rfl
/-- an entry of the two is an entry of one of them -/
theorem lk_ct_sub (h : lk_two M p n i a b na nb rt) {f j : Nat} (hj : j < na + nb) (la : 0 < lk_zi M 1 a) : ∃ p' i' : Nat, p' < 24 ∧ lk_zi M 0 p' = 1 ∧ 0 < lk_zi M 1 p' ∧ (i' : Int) < lk_zi M 5 p' ∧ (lk_ct M f a b na j).toInt = lk_zf M f p' i' := by
  obtain ⟨f1, f2, f3, f4, -⟩ := lk_two_facts h
  obtain ⟨hp, kp, lp, h5, hn, hi, e1, e2, ha, hb, h5a, h5b, hna, hnb, e3, e4, tr⟩ := h
  unfold lk_ct
  by_cases c : j < na
  · exact ⟨a, j, ha, lk_z1.mpr f1, la, by rw [lk_zi_n h5a (by omega)]; omega, by rw [if_pos c]; rfl⟩
  · exact ⟨b, j - na, hb, lk_z1.mpr f2, by omega, by rw [lk_zi_n h5b (by omega)]; omega, by rw [if_neg c]; rfl⟩
theorem lk_bl_Ev (h : lk_two M p n i a b na nb rt) (h4 : 4 < na + nb) {t : Nat} : lk_Ev M (lk_bl M p i a b na nb) t := by
  obtain ⟨f1, f2, f3, f4, hab, hap, hbp, -, -⟩ := lk_two_facts h
  have hna := h.2.2.2.2.2.2.2.2.2.2.2.2.1
  have hnb := h.2.2.2.2.2.2.2.2.2.2.2.2.2.1
  have hf : ∀ f x, f ≠ 2 → f ≠ 3 → f ≠ 5 → f ≠ 7 → f ≠ 8 → lk_bl M p i a b na nb f x = M f x := fun f x h2 h3 h5 h7 h8 => lk_bl_f hab hna hnb h4 h2 h3 h5 h7 h8
  refine lk_Ev_of (lk_same_ft (fun f x hf => lk_bl_f hab hna hnb h4 (by omega) (by omega) (by omega) (by omega) (by omega))) (fun x hx k => ⟨by rw [hf 0 x (by decide) (by decide) (by decide) (by decide) (by decide)]; exact k, hf 1 x (by decide) (by decide) (by decide) (by decide) (by decide)⟩) (fun x hx k => ⟨by rw [hf 0 x (by decide) (by decide) (by decide) (by decide) (by decide)]; exact k, hf 9 x (by decide) (by decide) (by decide) (by decide) (by decide)⟩) (fun u y hu hn2 hb ho hy e18 k nc e2 => ⟨?_, lk_nc_sub nc (fun x j hx kx lx hj => Or.inr ?_)⟩)
  · rw [lk_bl_at hab hna hnb h4, if_neg (by omega), if_neg (fun z => (lk_two_nc h nc).1 z.2), if_neg (by omega), lk_shr_f M a b na nb (by decide) (by decide) (by decide)]
  · have kx : lk_zi M 0 x = 1 := by
      have kx : (lk_bl M p i a b na nb 0 x).toInt = 1 := kx
      rw [hf 0 x (by decide) (by decide) (by decide) (by decide) (by decide)] at kx; exact kx
    have lx : 0 < lk_zi M 1 x := by
      have lx : 0 < (lk_bl M p i a b na nb 1 x).toInt := lx
      rw [hf 1 x (by decide) (by decide) (by decide) (by decide) (by decide)] at lx; exact lx
    have e := (lk_bl_e (Or.inr rfl) h h4 kx hx hj).2
    have hj : (j : Int) < (lk_bl M p i a b na nb 5 x).toInt := hj
    rw [lk_bl_n h h4] at hj
    show ∃ p' i' : Nat, _ ∧ _ ∧ _ ∧ _ ∧ (lk_bl M p i a b na nb 8 (5 * x + j)).toInt = _
    rw [e]
    by_cases c : x = a
    · rw [if_pos c]
      rw [if_pos c, nI_toInt (by omega)] at hj
      exact lk_ct_sub h (by omega) (by rw [← c]; exact lx)
    · rw [if_neg c] at hj ⊢
      by_cases c2 : x = b
      · rw [if_pos c2]
        rw [if_pos c2, nI_toInt (by omega)] at hj
        exact lk_ct_sub h (by omega) (by rw [c2] at lx; omega)
      · rw [if_neg c2, if_neg (by omega)]
        rw [if_neg c2] at hj
        exact ⟨x, j, hx, kx, lx, hj, rfl⟩
end Bal
theorem lk_Inv_bal {M : lk_M} {t p n i a b na nb rt : Nat} {r : Int32} (h : lk_Inv M) (ht : t < 4) (hpl : M 14 t = nI p) (r1 : M 24 0 = nI rt) (h2 : lk_two M p n i a b na nb rt) (h4 : 4 < na + nb) : lk_Inv (lk_st (mm_fin (lk_bl M p i a b na nb) t r) 6 p (-1)) := by
  obtain ⟨f1, f2, f3, f4, hab, hap, hbp, -, -⟩ := lk_two_facts h2
  have hna := h2.2.2.2.2.2.2.2.2.2.2.2.2.1
  have hnb := h2.2.2.2.2.2.2.2.2.2.2.2.2.2.1
  have hf : ∀ f x, f ≠ 2 → f ≠ 3 → f ≠ 5 → f ≠ 7 → f ≠ 8 → lk_bl M p i a b na nb f x = M f x := fun f x h2 h3 h5 h7 h8 => lk_bl_f hab hna hnb h4 h2 h3 h5 h7 h8
  refine lk_Inv_fin2 h ht h2.1 hpl (lk_bl_Ev h2 h4) (lk_TI_of (lk_Inv_TI h) ⟨rt, by rw [hf 24 0 (by decide) (by decide) (by decide) (by decide) (by decide)]; exact r1, lk_bl_TR h2 h4⟩ (fun x hx k => ?_) (fun x _ => Or.inl (hf 0 x (by decide) (by decide) (by decide) (by decide) (by decide))) (fun x _ => hf 9 x (by decide) (by decide) (by decide) (by decide) (by decide)) (fun x => hf 10 x (by decide) (by decide) (by decide) (by decide) (by decide)) (hf 24 1 (by decide) (by decide) (by decide) (by decide) (by decide))) (fun x _ => hf 6 x (by decide) (by decide) (by decide) (by decide) (by decide))
  rw [hf 0 x (by decide) (by decide) (by decide) (by decide) (by decide)] at k
  rw [lk_bl_n h2 h4]
  by_cases e : x = a
  · rw [if_pos e]; exact ⟨(na + nb + 1) / 2, by omega, rfl⟩
  · rw [if_neg e]
    by_cases e2 : x = b
    · rw [if_pos e2]; exact ⟨na + nb - (na + nb + 1) / 2, by omega, rfl⟩
    · rw [if_neg e2]; exact h.2.1 x hx k
