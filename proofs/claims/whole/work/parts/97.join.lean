/-! a page dies; two neighbours become one; the root goes -/
theorem lk_die_f {σ : lk_M} {p t n f i : Nat} (h : f ≠ 0 ∨ i ≠ p) (h9 : f ≠ 9 ∨ i ≠ p) (h10 : f ≠ 10) (h24 : f ≠ 24 ∨ i ≠ 1) : mm_die σ p t n f i = σ f i := by
  rw [lk_die_at, if_neg (by omega), if_neg (by omega), if_neg h10, if_neg (by omega)]
theorem lk_die_0 {σ : lk_M} {p t n : Nat} : mm_die σ p t n 0 p ≠ 1 := by
  rw [lk_die_at, if_pos ⟨rfl, rfl⟩]
  by_cases c : lk_mask (fun u => σ 11 u ≠ 0) t 4 = 0
  · rw [if_pos c]; decide
  · rw [if_neg c]; decide
theorem lk_die_02 {σ : lk_M} {p t n : Nat} : mm_die σ p t n 0 p = 0 ∨ mm_die σ p t n 0 p = 2 := by
  rw [lk_die_at, if_pos ⟨rfl, rfl⟩]
  by_cases c : lk_mask (fun u => σ 11 u ≠ 0) t 4 = 0
  · rw [if_pos c]; exact Or.inl rfl
  · rw [if_neg c]; exact Or.inr rfl
theorem lk_die_9 {σ : lk_M} {p t n : Nat} (ht : t < 4) : ∃ m, m < 16 ∧ mm_die σ p t n 9 p = nI m := by
  obtain ⟨m, hm, e, -⟩ := lk_mask_4 (fun u => σ 11 u ≠ 0) t ht
  exact ⟨m, hm, by rw [lk_die_at, if_neg (by omega), if_pos ⟨rfl, rfl⟩]; exact e⟩
theorem lk_die_Ev {σ : lk_M} {p t n : Nat} (ht : t < 4) (hp : p < 24) (kp : σ 0 p = 1) (hq : ∀ u y, u < 4 → u ≠ t → σ 11 u = 1 → σ 12 u = 4 → y < 24 → σ 18 u = nI y → lk_nc σ y → σ 2 y = σ 15 u → y ≠ p) : lk_Ev σ (mm_die σ p t n) t := by
  have o : ∀ f i, f ≠ 10 → f ≠ 24 → i ≠ p → mm_die σ p t n f i = σ f i := fun f i h1 h2 h3 => lk_die_f (Or.inr h3) (Or.inr h3) h1 (Or.inl h2)
  have g : ∀ f i, f ≠ 0 → f ≠ 9 → f ≠ 10 → f ≠ 24 → mm_die σ p t n f i = σ f i := fun f i h1 h2 h3 h4 => lk_die_f (Or.inl h1) (Or.inl h2) h3 (Or.inl h4)
  refine ⟨fun u hu hn => ⟨fun f a b => g f u (by omega) (by omega) (by omega) (by omega), g 20 u (by decide) (by decide) (by decide) (by decide), fun i _ => g 19 _ (by decide) (by decide) (by decide) (by decide)⟩, fun x hx => ⟨fun k => ?_, fun k u hu hn hb hw => ?_⟩, fun u hu hn hb ho y hy e18 k nc e2 => ?_⟩
  · by_cases e : x = p
    · right
      intro u hu hn hb
      obtain ⟨m, hm, em, bm⟩ := lk_mask_4 (fun u => σ 11 u ≠ 0) t ht
      have hbit := bm u hu hn (by show σ 11 u ≠ 0; rw [hb]; decide)
      subst e
      have d0 : mm_die σ x t n 0 x = if lk_mask (fun u => σ 11 u ≠ 0) t 4 = 0 then 0 else 2 := by rw [lk_die_at, if_pos ⟨rfl, rfl⟩]
      have d9 : mm_die σ x t n 9 x = lk_mask (fun u => σ 11 u ≠ 0) t 4 := by rw [lk_die_at, if_neg (by omega), if_pos ⟨rfl, rfl⟩]
      rw [d0, d9]
      refine ⟨?_, hbit⟩
      rw [if_neg]
      intro z
      rw [z] at hbit
      exact lk_bit0 u hu hbit
    · left
      exact ⟨by rw [o 0 x (by decide) (by decide) e]; exact k, o 1 x (by decide) (by decide) e⟩
  · have e : x ≠ p := fun z => by rw [z, kp] at k; exact absurd k (by decide)
    rw [o 0 x (by decide) (by decide) e, o 9 x (by decide) (by decide) e]
    exact ⟨k, hw⟩
  · have e := hq u y hu hn hb ho hy e18 nc e2
    refine ⟨by rw [o 0 y (by decide) (by decide) e]; exact k, o 2 y (by decide) (by decide) e, lk_nc_sub nc (fun x j hx kx lx hj => Or.inr ⟨x, j, hx, ?_⟩)⟩
    unfold lk_zi lk_zf at *
    have ex : x ≠ p := fun z => by
      rw [z] at kx
      exact lk_die_0 (lk_z1.mp kx)
    rw [o 0 x (by decide) (by decide) ex] at kx
    rw [g 1 x (by decide) (by decide) (by decide) (by decide)] at lx
    rw [g 5 x (by decide) (by decide) (by decide) (by decide)] at hj
    rw [g 8 _ (by decide) (by decide) (by decide) (by decide)]
    exact ⟨kx, lx, hj, rfl⟩
/-- of the queue, when the page dies -/
theorem lk_die_QU {σ : lk_M} {p t n : Nat} (h : lk_QU σ) (hq : σ 24 1 = nI n) (hn : n ≤ 12) : lk_QU (mm_die σ p t n) := by
  obtain ⟨n', hn', q1, q2⟩ := h
  have e : n' = n := lk_nI_inj (by omega) (by omega) (q1.symm.trans hq)
  subst e
  have le := lk_cmp_le (σ 10) (nI p) n'
  refine ⟨(lk_cmp (σ 10) (nI p) n').2, by omega, by rw [lk_die_at, if_neg (by omega), if_neg (by omega), if_neg (by decide), if_pos ⟨rfl, rfl⟩], fun i hi => ?_⟩
  obtain ⟨j, hj, e1, e2⟩ := (lk_cmp_in (σ 10) (nI p) n').2 i hi
  obtain ⟨x, hx, y1, y2⟩ := q2 j hj
  refine ⟨x, hx, by rw [lk_die_at, if_neg (by omega), if_neg (by omega), if_pos rfl, e1]; exact y1, ?_⟩
  have ne : x ≠ p := fun z => e2 (by rw [y1, z])
  rw [lk_die_f (Or.inr ne) (Or.inr ne) (by decide) (Or.inl (by decide))]
  exact y2
theorem lk_die_AK {σ : lk_M} {p t n : Nat} (ht : t < 4) (h5 : lk_AW σ) (h6 : lk_KD σ) : lk_AW (mm_die σ p t n) ∧ lk_KD (mm_die σ p t n) := by
  constructor
  · intro x hx k
    by_cases e : x = p
    · rw [e]; exact lk_die_9 ht
    · rw [lk_die_f (Or.inr e) (Or.inr e) (by decide) (Or.inl (by decide))] at k ⊢
      exact h5 x hx k
  · intro x hx
    by_cases e : x = p
    · rw [e]
      rcases lk_die_02 (σ := σ) (p := p) (t := t) (n := n) with z | z
      · exact Or.inl z
      · exact Or.inr (Or.inr z)
    · rw [lk_die_f (Or.inr e) (Or.inr e) (by decide) (Or.inl (by decide))]
      exact h6 x hx
def lk_m2 (M : lk_M) (a b na nb : Nat) : lk_M := lk_st (lk_st (lk_apL M a b na nb) 3 a (M 3 b)) 4 a (M 4 b)
def lk_m3' (σ : lk_M) (p n i a : Nat) : lk_M := lk_st (lk_del σ p i n) 8 (5 * p + i) (nI a)
noncomputable def lk_m3 (M : lk_M) (t p n i a b na nb nq : Nat) : lk_M := lk_m3' (mm_die (lk_m2 M a b na nb) b t nq) p n i a
theorem lk_m2_f {M : lk_M} {a b na nb f x : Nat} (h3 : f ≠ 3) (h4 : f ≠ 4) (h5 : f ≠ 5) (h7 : f ≠ 7) (h8 : f ≠ 8) : lk_m2 M a b na nb f x = M f x := by
  unfold lk_m2
  rw [lk_st_f h4, lk_st_f h3, lk_apL_f M a b na h5 h7 h8]
theorem lk_m2_34 {M : lk_M} {a b na nb f x : Nat} (h : f = 3 ∨ f = 4) : lk_m2 M a b na nb f x = if x = a then M f b else M f x := by
  unfold lk_m2
  rcases h with e | e
  · subst e
    rw [lk_st_f (by decide), lk_st_eq]
    by_cases c : x = a
    · rw [if_pos ⟨rfl, c⟩, if_pos c]
    · rw [if_neg (fun z => c z.2), if_neg c, lk_apL_f M a b na (by decide) (by decide) (by decide)]
  · subst e
    rw [lk_st_eq]
    by_cases c : x = a
    · rw [if_pos ⟨rfl, c⟩, if_pos c]
    · rw [if_neg (fun z => c z.2), if_neg c, lk_st_f (by decide), lk_apL_f M a b na (by decide) (by decide) (by decide)]
theorem lk_m2_5 {M : lk_M} {a b na nb x : Nat} (h : M 5 a = nI na) : lk_m2 M a b na nb 5 x = if x = a then nI (na + nb) else M 5 x := by
  unfold lk_m2
  rw [lk_st_f (by decide), lk_st_f (by decide)]
  by_cases c : x = a
  · rw [if_pos c, c, lk_apL_a M a b na h]
  · rw [if_neg c, lk_apL_5 M a b na c]
theorem lk_m2_78 {M : lk_M} {a b na nb f x j : Nat} (hf : f = 7 ∨ f = 8) (hab : a ≠ b) (h : na + nb ≤ 5) (hj : j < 5) : lk_m2 M a b na nb f (5 * x + j) = if x = a ∧ j < na + nb then lk_ct M f a b na j else M f (5 * x + j) := by
  unfold lk_m2 lk_ct
  rw [lk_st_f (by omega), lk_st_f (by omega), lk_apL_at hf hab nb x j h hj]
  by_cases c : x = a
  · subst c
    rw [if_pos rfl]
    by_cases c1 : j < na
    · rw [if_pos c1, if_pos ⟨rfl, by omega⟩, if_pos c1]
    · rw [if_neg c1]
      by_cases c2 : j < na + nb
      · rw [if_pos c2, if_pos ⟨rfl, c2⟩, if_neg c1]
      · rw [if_neg c2, if_neg (fun z => c2 z.2)]
  · rw [if_neg c, if_neg (fun z => c z.1)]
section Merge
variable {M : lk_M} {p n i a b na nb rt : Nat}
/-- the entries after the join, of a page that is a node still -/
theorem lk_m3_f {t nq f x : Nat} (h0 : f ≠ 0) (h3 : f ≠ 3) (h4 : f ≠ 4) (h5 : f ≠ 5) (h7 : f ≠ 7) (h8 : f ≠ 8) (h9 : f ≠ 9) (h10 : f ≠ 10) (h24 : f ≠ 24 ∨ x ≠ 1) : lk_m3 M t p n i a b na nb nq f x = M f x := by
  unfold lk_m3 lk_m3'
  rw [lk_st_f h8, lk_del_f h5 h7 h8, lk_die_f (Or.inl h0) (Or.inl h9) h10 h24, lk_m2_f h3 h4 h5 h7 h8]
theorem lk_m3_0 {t nq x : Nat} (hx : x ≠ b) : lk_m3 M t p n i a b na nb nq 0 x = M 0 x := by
  unfold lk_m3 lk_m3'
  rw [lk_st_f (by decide), lk_del_f (by decide) (by decide) (by decide), lk_die_f (Or.inr hx) (Or.inr hx) (by decide) (Or.inl (by decide)), lk_m2_f (by decide) (by decide) (by decide) (by decide) (by decide)]
theorem lk_m3_0b {t nq : Nat} : lk_m3 M t p n i a b na nb nq 0 b = mm_die (lk_m2 M a b na nb) b t nq 0 b := by
  unfold lk_m3 lk_m3'
  rw [lk_st_f (by decide), lk_del_f (by decide) (by decide) (by decide)]
theorem lk_m3_9 {t nq x : Nat} (hx : x ≠ b) : lk_m3 M t p n i a b na nb nq 9 x = M 9 x := by
  unfold lk_m3 lk_m3'
  rw [lk_st_f (by decide), lk_del_f (by decide) (by decide) (by decide), lk_die_f (Or.inr hx) (Or.inr hx) (by decide) (Or.inl (by decide)), lk_m2_f (by decide) (by decide) (by decide) (by decide) (by decide)]
theorem lk_m3_34 {t nq f x : Nat} (h : f = 3 ∨ f = 4) : lk_m3 M t p n i a b na nb nq f x = if x = a then M f b else M f x := by
  unfold lk_m3 lk_m3'
  rw [lk_st_f (by omega), lk_del_f (by omega) (by omega) (by omega), lk_die_f (Or.inl (by omega)) (Or.inl (by omega)) (by omega) (Or.inl (by omega)), lk_m2_34 h]
theorem lk_m3_5 {t nq x : Nat} (h : M 5 a = nI na) : lk_m3 M t p n i a b na nb nq 5 x = if x = p then nI (n - 1) else if x = a then nI (na + nb) else M 5 x := by
  unfold lk_m3 lk_m3'
  rw [lk_st_f (by decide), lk_del_5]
  by_cases c : x = p
  · rw [if_pos c, if_pos c]
  · rw [if_neg c, if_neg c, lk_die_f (Or.inl (by decide)) (Or.inl (by decide)) (by decide) (Or.inl (by decide)), lk_m2_5 h]
theorem lk_m3_78 {t nq f x j : Nat} (hf : f = 7 ∨ f = 8) (hab : a ≠ b) (hap : a ≠ p) (h : na + nb ≤ 5) (hn : n ≤ 5) (hi : i < 5) (hj : j < 5) : lk_m3 M t p n i a b na nb nq f (5 * x + j) = if x = p then (if f = 8 ∧ j = i then nI a else if j < i then M f (5 * p + j) else if j < n - 1 then M f (5 * p + (j + 1)) else M f (5 * p + j)) else if x = a ∧ j < na + nb then lk_ct M f a b na j else M f (5 * x + j) := by
  have base : ∀ y k, k < 5 → mm_die (lk_m2 M a b na nb) b t nq f (5 * y + k) = if y = a ∧ k < na + nb then lk_ct M f a b na k else M f (5 * y + k) := fun y k hk => by
    rw [lk_die_f (Or.inl (by omega)) (Or.inl (by omega)) (by omega) (Or.inl (by omega)), lk_m2_78 hf hab h hk]
  have basep : ∀ k, k < 5 → mm_die (lk_m2 M a b na nb) b t nq f (5 * p + k) = M f (5 * p + k) := fun k hk => by
    rw [base p k hk, if_neg (fun z => hap z.1.symm)]
  unfold lk_m3 lk_m3'
  rw [lk_st_eq]
  by_cases c : x = p
  · subst c
    rw [if_pos rfl]
    by_cases c8 : f = 8 ∧ j = i
    · rw [if_pos ⟨c8.1, by omega⟩, if_pos c8]
    · rw [if_neg (by omega), if_neg c8, lk_del_g hf hn hj, if_pos rfl]
      by_cases c1 : j < i
      · rw [if_pos c1, if_pos c1, basep j hj]
      · rw [if_neg c1, if_neg c1]
        by_cases c2 : j < n - 1
        · rw [if_pos c2, if_pos c2, basep (j + 1) (by omega)]
        · rw [if_neg c2, if_neg c2, basep j hj]
  · rw [if_neg (by omega), if_neg c, lk_del_g hf hn hj, if_neg c, base x j hj]
theorem lk_m3_TR (h : lk_two M p n i a b na nb rt) (h4 : na + nb ≤ 4) {t nq : Nat} : lk_TR (lk_m3 M t p n i a b na nb nq) rt := by
  have hh := lk_two_pair h
  obtain ⟨f1, f2, f3, f4, hab, hap, hbp, -, -⟩ := lk_two_facts h
  obtain ⟨hp, kp, lp, h5, hn, hi, e1, e2, ha, hb, h5a, h5b, hna, hnb, e3, e4, tr⟩ := h
  have z : ∀ f, f ≠ 0 → f ≠ 3 → f ≠ 4 → f ≠ 5 → f ≠ 7 → f ≠ 8 → f ≠ 9 → f ≠ 10 → f ≠ 24 → lk_zi (lk_m3 M t p n i a b na nb nq) f = lk_zi M f := fun f x0 x3 x4 x5 x7 x8 x9 x10 x24 => by
    funext x; unfold lk_zi; rw [lk_m3_f x0 x3 x4 x5 x7 x8 x9 x10 (Or.inl x24)]
  have N5 := lk_zi_n h5 (by omega)
  have nx : ∀ x, lk_zi (lk_m3 M t p n i a b na nb nq) 5 x = if x = p then (n : Int) - 1 else if x = a then (na : Int) + nb else lk_zi M 5 x := fun x => by
    show (lk_m3 M t p n i a b na nb nq 5 x).toInt = _
    rw [lk_m3_5 h5a]
    by_cases c : x = p
    · rw [if_pos c, if_pos c, nI_toInt (by omega)]; omega
    · rw [if_neg c, if_neg c]
      by_cases c2 : x = a
      · rw [if_pos c2, if_pos c2, nI_toInt (by omega)]; omega
      · rw [if_neg c2, if_neg c2]; rfl
  have j5 : ∀ x, x < 24 → x ≠ b → lk_zi (lk_m3 M t p n i a b na nb nq) 0 x = 1 → ∀ j : Nat, (j : Int) < lk_zi (lk_m3 M t p n i a b na nb nq) 5 x → j < 5 ∧ (x = a → j < na + nb) ∧ (x = p → j < n - 1) := fun x hx hxb kx j hj => by
    have kx : (lk_m3 M t p n i a b na nb nq 0 x).toInt = 1 := kx
    rw [lk_m3_0 hxb] at kx
    rw [nx] at hj
    by_cases c : x = p
    · rw [if_pos c] at hj
      exact ⟨by omega, fun z => absurd (z.symm.trans c) hap, fun _ => by omega⟩
    · rw [if_neg c] at hj
      by_cases c2 : x = a
      · rw [if_pos c2] at hj
        exact ⟨by omega, fun _ => by omega, fun z => absurd z c⟩
      · rw [if_neg c2] at hj
        exact ⟨lk_n5 tr hx kx hj, fun z => absurd z c2, fun z => absurd z c⟩
  unfold lk_TR
  rw [z 1 (by decide) (by decide) (by decide) (by decide) (by decide) (by decide) (by decide) (by decide) (by decide), z 2 (by decide) (by decide) (by decide) (by decide) (by decide) (by decide) (by decide) (by decide) (by decide)]
  refine lk_tr_merge tr hh h4 (fun x _ hxb => ?_) ?_ (fun x _ hxb => ?_) (fun x _ hxb => ?_) (fun x _ hxb => ?_) (fun x hx hxb kx j hj => ?_) (fun x hx hxb kx j hj => ?_)
  · unfold lk_zi; rw [lk_m3_0 hxb]
  · intro w
    have w := lk_z1.mp w
    rw [lk_m3_0b] at w
    exact lk_die_0 w
  · show (lk_m3 M t p n i a b na nb nq 3 x).toInt = _
    rw [lk_m3_34 (Or.inl rfl)]
    by_cases c : x = a
    · rw [if_pos c, if_pos c]; rfl
    · rw [if_neg c, if_neg c]; rfl
  · show (lk_m3 M t p n i a b na nb nq 4 x).toInt = _
    rw [lk_m3_34 (Or.inr rfl)]
    by_cases c : x = a
    · rw [if_pos c, if_pos c]; rfl
    · rw [if_neg c, if_neg c]; rfl
  · rw [nx]
    by_cases c : x = a
    · rw [if_pos c, if_neg (fun z => hap (c.symm.trans z)), if_pos c]
    · rw [if_neg c, if_neg c]
      by_cases c2 : x = p
      · rw [if_pos c2, if_pos c2, N5]
      · rw [if_neg c2, if_neg c2]
  · obtain ⟨g1, g2, g3⟩ := j5 x hx hxb kx j hj
    show (lk_m3 M t p n i a b na nb nq 7 (5 * x + j)).toInt = _
    rw [lk_m3_78 (Or.inl rfl) hab hap (by omega) (by omega) (by omega) g1]
    by_cases c : x = a
    · rw [if_pos c, if_neg (fun z => hap (c.symm.trans z)), if_pos ⟨c, g2 c⟩, lk_ct_z]
    · rw [if_neg c]
      by_cases c2 : x = p
      · rw [if_pos c2, if_pos c2, if_neg (by omega)]
        by_cases c3 : j < i
        · rw [if_pos c3, if_pos c3]; rfl
        · rw [if_neg c3, if_neg c3, if_pos (g3 c2)]; rfl
      · rw [if_neg c2, if_neg c2, if_neg (fun z => c z.1)]; rfl
  · obtain ⟨g1, g2, g3⟩ := j5 x hx hxb kx j hj
    show (lk_m3 M t p n i a b na nb nq 8 (5 * x + j)).toInt = _
    rw [lk_m3_78 (Or.inr rfl) hab hap (by omega) (by omega) (by omega) g1]
    by_cases c : x = a
    · rw [if_pos c, if_neg (fun z => hap (c.symm.trans z)), if_pos ⟨c, g2 c⟩, lk_ct_z]
    · rw [if_neg c]
      by_cases c2 : x = p
      · rw [if_pos c2, if_pos c2]
        by_cases c4 : j = i
        · rw [if_pos ⟨rfl, c4⟩, if_neg (by omega), if_pos c4, nI_toInt (by omega)]
        · rw [if_neg (fun z => c4 z.2)]
          by_cases c3 : j < i
          · rw [if_pos c3, if_pos c3]; rfl
          · rw [if_neg c3, if_neg c3, if_neg c4, if_pos (g3 c2)]; rfl
      · rw [if_neg c2, if_neg c2, if_neg (fun z => c z.1)]; rfl
theorem lk_m3_TI (h0 : lk_TI M) (h : lk_two M p n i a b na nb rt) (h4 : na + nb ≤ 4) {t nq : Nat} (ht : t < 4) (r1 : M 24 0 = nI rt) (hq : M 24 1 = nI nq) (hnq : nq ≤ 12) : lk_TI (lk_m3 M t p n i a b na nb nq) ∧ lk_m3 M t p n i a b na nb nq 24 1 = nI (lk_cmp (M 10) (nI b) nq).2 := by
  obtain ⟨f1, f2, f3, f4, hab, hap, hbp, -, -⟩ := lk_two_facts h
  have tr3 := lk_m3_TR (t := t) (nq := nq) h h4
  obtain ⟨hp, kp, lp, h5, hn, hi, e1, e2, ha, hb, h5a, h5b, hna, hnb, e3, e4, tr⟩ := h
  obtain ⟨-, n4, qu, aw, kd⟩ := h0
  have g2 : ∀ f x, f ≠ 3 → f ≠ 4 → f ≠ 5 → f ≠ 7 → f ≠ 8 → lk_m2 M a b na nb f x = M f x := fun f x h3 h4 h5 h7 h8 => lk_m2_f h3 h4 h5 h7 h8
  have qu2 : lk_QU (lk_m2 M a b na nb) := by
    obtain ⟨m, hm, q1, q2⟩ := qu
    refine ⟨m, hm, by rw [g2 24 1 (by decide) (by decide) (by decide) (by decide) (by decide)]; exact q1, fun j hj => ?_⟩
    obtain ⟨x, hx, y1, y2⟩ := q2 j hj
    exact ⟨x, hx, by rw [g2 10 j (by decide) (by decide) (by decide) (by decide) (by decide)]; exact y1, by rw [g2 0 x (by decide) (by decide) (by decide) (by decide) (by decide)]; exact y2⟩
  have qu3 := lk_die_QU (p := b) (t := t) qu2 (by rw [g2 24 1 (by decide) (by decide) (by decide) (by decide) (by decide)]; exact hq) hnq
  have ak := lk_die_AK (σ := lk_m2 M a b na nb) (p := b) (t := t) (n := nq) ht (fun x hx k => by
    rw [g2 0 x (by decide) (by decide) (by decide) (by decide) (by decide)] at k
    rw [g2 9 x (by decide) (by decide) (by decide) (by decide) (by decide)]
    exact aw x hx k) (fun x hx => by
    rw [g2 0 x (by decide) (by decide) (by decide) (by decide) (by decide)]
    exact kd x hx)
  have g3 : ∀ f x, f ≠ 5 → f ≠ 7 → f ≠ 8 → lk_m3 M t p n i a b na nb nq f x = mm_die (lk_m2 M a b na nb) b t nq f x := fun f x h5 h7 h8 => by
    unfold lk_m3 lk_m3'
    rw [lk_st_f h8, lk_del_f h5 h7 h8]
  refine ⟨⟨⟨rt, by rw [lk_m3_f (by decide) (by decide) (by decide) (by decide) (by decide) (by decide) (by decide) (by decide) (Or.inr (by decide))]; exact r1, tr3⟩, fun x hx k => ?_, ?_, fun x hx k => ?_, fun x hx => ?_⟩, ?_⟩
  · have hxb : x ≠ b := fun z => by
      rw [z, lk_m3_0b] at k
      exact lk_die_0 k
    rw [lk_m3_0 hxb] at k
    rw [lk_m3_5 h5a]
    by_cases c : x = p
    · rw [if_pos c]; exact ⟨n - 1, by omega, rfl⟩
    · rw [if_neg c]
      by_cases c2 : x = a
      · rw [if_pos c2]; exact ⟨na + nb, h4, rfl⟩
      · rw [if_neg c2]; exact n4 x hx k
  · obtain ⟨m, hm, q1, q2⟩ := qu3
    refine ⟨m, hm, by rw [g3 24 1 (by decide) (by decide) (by decide)]; exact q1, fun j hj => ?_⟩
    obtain ⟨x, hx, y1, y2⟩ := q2 j hj
    exact ⟨x, hx, by rw [g3 10 j (by decide) (by decide) (by decide)]; exact y1, by rw [g3 0 x (by decide) (by decide) (by decide)]; exact y2⟩
  · rw [g3 0 x (by decide) (by decide) (by decide)] at k
    rw [g3 9 x (by decide) (by decide) (by decide)]
    exact ak.1 x hx k
  · rw [g3 0 x (by decide) (by decide) (by decide)]
    exact ak.2 x hx
  · have e10 : lk_m2 M a b na nb 10 = M 10 := funext (fun x => g2 10 x (by decide) (by decide) (by decide) (by decide) (by decide))
    rw [g3 24 1 (by decide) (by decide) (by decide), lk_die_at, if_neg (by omega), if_neg (by omega), if_neg (by decide), if_pos ⟨rfl, rfl⟩, e10]
theorem lk_m3_Ev (h : lk_two M p n i a b na nb rt) (h4 : na + nb ≤ 4) {t nq : Nat} (ht : t < 4) : lk_Ev M (lk_m3 M t p n i a b na nb nq) t := by
  have h' := h
  obtain ⟨f1, f2, f3, f4, hab, hap, hbp, -, -⟩ := lk_two_facts h
  obtain ⟨hp, kp, lp, h5, hn, hi, e1, e2, ha, hb, h5a, h5b, hna, hnb, e3, e4, tr⟩ := h
  have g2 : ∀ f x, f ≠ 3 → f ≠ 4 → f ≠ 5 → f ≠ 7 → f ≠ 8 → lk_m2 M a b na nb f x = M f x := fun f x h3 h4 h5 h7 h8 => lk_m2_f h3 h4 h5 h7 h8
  have n2 : ∀ x j : Nat, x < 24 → lk_zi M 0 x = 1 → (j : Int) < (lk_m2 M a b na nb 5 x).toInt → j < 5 ∧ (x = a → j < na + nb) ∧ (x ≠ a → (j : Int) < lk_zi M 5 x) := fun x j hx kx hj => by
    rw [lk_m2_5 h5a] at hj
    by_cases c : x = a
    · rw [if_pos c, nI_toInt (by omega)] at hj
      exact ⟨by omega, fun _ => by omega, fun z => absurd c z⟩
    · rw [if_neg c] at hj
      exact ⟨lk_n5 tr hx kx hj, fun z => absurd z c, fun _ => hj⟩
  have ev1 : lk_Ev M (lk_m2 M a b na nb) t := by
    refine lk_Ev_of (lk_same_ft (fun f x hf => lk_m2_f (by omega) (by omega) (by omega) (by omega) (by omega))) (fun x hx k => ⟨by rw [g2 0 x (by decide) (by decide) (by decide) (by decide) (by decide)]; exact k, g2 1 x (by decide) (by decide) (by decide) (by decide) (by decide)⟩) (fun x hx k => ⟨by rw [g2 0 x (by decide) (by decide) (by decide) (by decide) (by decide)]; exact k, g2 9 x (by decide) (by decide) (by decide) (by decide) (by decide)⟩) (fun u y hu hn2 hb ho hy e18 k nc e2 => ⟨g2 2 y (by decide) (by decide) (by decide) (by decide) (by decide), lk_nc_sub nc (fun x j hx kx lx hj => Or.inr ?_)⟩)
    have kx : lk_zi M 0 x = 1 := by
      have kx : (lk_m2 M a b na nb 0 x).toInt = 1 := kx
      rw [g2 0 x (by decide) (by decide) (by decide) (by decide) (by decide)] at kx; exact kx
    have lx : 0 < lk_zi M 1 x := by
      have lx : 0 < (lk_m2 M a b na nb 1 x).toInt := lx
      rw [g2 1 x (by decide) (by decide) (by decide) (by decide) (by decide)] at lx; exact lx
    obtain ⟨j5, ja, jo⟩ := n2 x j hx kx hj
    show ∃ p' i' : Nat, _ ∧ _ ∧ _ ∧ _ ∧ (lk_m2 M a b na nb 8 (5 * x + j)).toInt = _
    rw [lk_m2_78 (Or.inr rfl) hab (by omega) j5]
    by_cases c : x = a
    · rw [if_pos ⟨c, ja c⟩]
      exact lk_ct_sub h' (ja c) (by rw [← c]; exact lx)
    · rw [if_neg (fun z => c z.1)]
      exact ⟨x, j, hx, kx, lx, jo c, rfl⟩
  have ev2 : lk_Ev (lk_m2 M a b na nb) (mm_die (lk_m2 M a b na nb) b t nq) t := by
    refine lk_die_Ev ht hb (by rw [g2 0 b (by decide) (by decide) (by decide) (by decide) (by decide)]; exact f2) (fun u y hu hn2 hb2 ho hy e18 nc e2' => ?_)
    intro z
    subst z
    refine nc p (i + 1) hp ?_ ?_ ?_ ?_
    · show (lk_m2 M a y na nb 0 p).toInt = 1
      rw [g2 0 p (by decide) (by decide) (by decide) (by decide) (by decide)]; exact lk_z1.mpr kp
    · show 0 < (lk_m2 M a y na nb 1 p).toInt
      rw [g2 1 p (by decide) (by decide) (by decide) (by decide) (by decide)]; exact lp
    · show ((i + 1 : Nat) : Int) < (lk_m2 M a y na nb 5 p).toInt
      rw [lk_m2_5 h5a, if_neg (Ne.symm hap), h5, nI_toInt (by omega)]; omega
    · show (lk_m2 M a y na nb 8 (5 * p + (i + 1))).toInt = _
      rw [lk_m2_78 (Or.inr rfl) hab (by omega) (by omega), if_neg (fun z => hap z.1.symm)]
      exact (lk_z _ y (by omega)).mpr e2
  have g3 : ∀ f x, f ≠ 5 → f ≠ 7 → f ≠ 8 → lk_m3 M t p n i a b na nb nq f x = mm_die (lk_m2 M a b na nb) b t nq f x := fun f x h5 h7 h8 => by
    unfold lk_m3 lk_m3'
    rw [lk_st_f h8, lk_del_f h5 h7 h8]
  have ev3 : lk_Ev (mm_die (lk_m2 M a b na nb) b t nq) (lk_m3 M t p n i a b na nb nq) t := by
    refine lk_Ev_of (lk_same_ft (fun f x hf => g3 f x (by omega) (by omega) (by omega))) (fun x hx k => ⟨by rw [g3 0 x (by decide) (by decide) (by decide)]; exact k, g3 1 x (by decide) (by decide) (by decide)⟩) (fun x hx k => ⟨by rw [g3 0 x (by decide) (by decide) (by decide)]; exact k, g3 9 x (by decide) (by decide) (by decide)⟩) (fun u y hu hn2 hb ho hy e18 k nc e2 => ⟨g3 2 y (by decide) (by decide) (by decide), lk_nc_sub nc (fun x j hx kx lx hj => Or.inr ?_)⟩)
    have kx : (mm_die (lk_m2 M a b na nb) b t nq 0 x).toInt = 1 := by
      have kx : (lk_m3 M t p n i a b na nb nq 0 x).toInt = 1 := kx
      rw [g3 0 x (by decide) (by decide) (by decide)] at kx; exact kx
    have hxb : x ≠ b := fun z => by rw [z] at kx; exact lk_die_0 (lk_z1.mp kx)
    have lx : 0 < (mm_die (lk_m2 M a b na nb) b t nq 1 x).toInt := by
      have lx : 0 < (lk_m3 M t p n i a b na nb nq 1 x).toInt := lx
      rw [g3 1 x (by decide) (by decide) (by decide)] at lx; exact lx
    have kx0 : lk_zi M 0 x = 1 := by
      rw [lk_die_f (Or.inr hxb) (Or.inr hxb) (by decide) (Or.inl (by decide)), g2 0 x (by decide) (by decide) (by decide) (by decide) (by decide)] at kx; exact kx
    have hj : (j : Int) < (lk_m3 M t p n i a b na nb nq 5 x).toInt := hj
    rw [lk_m3_5 h5a] at hj
    have d5 : ∀ y, mm_die (lk_m2 M a b na nb) b t nq 5 y = if y = a then nI (na + nb) else M 5 y := fun y => by
      rw [lk_die_f (Or.inl (by decide)) (Or.inl (by decide)) (by decide) (Or.inl (by decide)), lk_m2_5 h5a]
    have d8 : ∀ y k, k < 5 → mm_die (lk_m2 M a b na nb) b t nq 8 (5 * y + k) = if y = a ∧ k < na + nb then lk_ct M 8 a b na k else M 8 (5 * y + k) := fun y k hk => by
      rw [lk_die_f (Or.inl (by decide)) (Or.inl (by decide)) (by decide) (Or.inl (by decide)), lk_m2_78 (Or.inr rfl) hab (by omega) hk]
    by_cases c : x = p
    · rw [if_pos c, nI_toInt (by omega)] at hj
      subst c
      have np : (mm_die (lk_m2 M a b na nb) b t nq 5 x).toInt = n := by
        rw [d5, if_neg (Ne.symm hap), h5, nI_toInt (by omega)]
      show ∃ p' i' : Nat, _ ∧ _ ∧ _ ∧ _ ∧ (lk_m3 M t x n i a b na nb nq 8 (5 * x + j)).toInt = _
      rw [lk_m3_78 (Or.inr rfl) hab hap (by omega) (by omega) (by omega) (by omega), if_pos rfl]
      by_cases c4 : j = i
      · rw [if_pos ⟨rfl, c4⟩]
        refine ⟨x, i, hx, kx, lx, by show (i : Int) < (mm_die (lk_m2 M a b na nb) b t nq 5 x).toInt; omega, ?_⟩
        show _ = (mm_die (lk_m2 M a b na nb) b t nq 8 (5 * x + i)).toInt
        rw [d8 x i (by omega), if_neg (fun z => hap z.1.symm), e1]
      · rw [if_neg (fun z => c4 z.2)]
        by_cases c3 : j < i
        · rw [if_pos c3]
          refine ⟨x, j, hx, kx, lx, by show (j : Int) < (mm_die (lk_m2 M a b na nb) b t nq 5 x).toInt; omega, ?_⟩
          show _ = (mm_die (lk_m2 M a b na nb) b t nq 8 (5 * x + j)).toInt
          rw [d8 x j (by omega), if_neg (fun z => hap z.1.symm)]
        · rw [if_neg c3, if_pos (by omega)]
          refine ⟨x, j + 1, hx, kx, lx, by show ((j + 1 : Nat) : Int) < (mm_die (lk_m2 M a b na nb) b t nq 5 x).toInt; omega, ?_⟩
          show _ = (mm_die (lk_m2 M a b na nb) b t nq 8 (5 * x + (j + 1))).toInt
          rw [d8 x (j + 1) (by omega), if_neg (fun z => hap z.1.symm)]
    · rw [if_neg c, ← d5] at hj
      have hj2 : (j : Int) < (lk_m2 M a b na nb 5 x).toInt := by
        rw [lk_die_f (Or.inl (by decide)) (Or.inl (by decide)) (by decide) (Or.inl (by decide))] at hj; exact hj
      obtain ⟨j5, -⟩ := n2 x j hx kx0 hj2
      refine ⟨x, j, hx, kx, lx, hj, ?_⟩
      show (lk_m3 M t p n i a b na nb nq 8 (5 * x + j)).toInt = (mm_die (lk_m2 M a b na nb) b t nq 8 (5 * x + j)).toInt
      rw [lk_m3_78 (Or.inr rfl) hab hap (by omega) (by omega) (by omega) j5, if_neg c, d8 x j j5]
  exact lk_Ev_tr (lk_Ev_tr ev1 ev2) ev3
end Merge
