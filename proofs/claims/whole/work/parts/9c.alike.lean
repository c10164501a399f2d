/-! both sides step alike: split, a new root, the two neighbours -/
section Alike
variable {C M : lk_M}
theorem lk_SX.split (s : lk_SX 24 C M) (b5 : lk_B5 M) {t p q v : Nat} (ht : t < 4) (hp : p < 24) (hq : q < 24) (kp : M 0 p = 1) (kq : M 0 q = 0) (h5 : M 5 p = nI 5) : lk_SX 24 (mm_split C t p q v) (mm_split M t p q v) := by
  have hne : q ≠ p := fun z => by rw [z, kp] at kq; exact absurd kq (by decide)
  have p24 : p ≠ 24 := by omega
  have E7 : ∀ i, i < 5 → C 7 (5 * p + i) = M 7 (5 * p + i) := fun i hi => s.e7 hp p24 kp h5 (by decide) hi
  have E8 : ∀ i, i < 5 → C 8 (5 * p + i) = M 8 (5 * p + i) := fun i hi => s.e8 hp p24 kp h5 (by decide) hi
  have N : ∀ f, 1 ≤ f → f ≤ 5 → C f p = M f p := fun f a b => s.nd p hp p24 kp f a b
  obtain ⟨c12, c13, c14, c15, c16, c18⟩ := lk_split_t (M := C) (t := t) (p := p) (q := q) (v := v) ht
  obtain ⟨m12, m13, m14, m15, m16, m18⟩ := lk_split_t (M := M) (t := t) (p := p) (q := q) (v := v) ht
  refine ⟨fun x hx => ?_, fun x hx => ?_, fun x hx hxe k f h1 h2 => ?_, fun x hx hxe k i hi => ?_, fun x hx k => ?_, fun f i hf => ?_, ?_, ?_, fun u hu => ?_, fun u hu b o => ?_, ?_⟩
  · rw [lk_split_0, lk_split_0, s.k x hx]
  · rw [lk_split_6, lk_split_6, s.ow x hx]
  · rw [lk_split_0] at k
    have kx : x ≠ q → M 0 x = 1 := fun z => by rw [if_neg z] at k; exact k
    rcases lk_f15 h1 h2 with z | z | z | z | z <;> subst z
    · rw [lk_split_1, lk_split_1]
      by_cases c : x = q
      · rw [if_pos c, if_pos c]
      · rw [if_neg c, if_neg c]; exact s.nd x hx hxe (kx c) 1 h1 h2
    · rw [lk_split_2, lk_split_2, E7 2 (by decide)]
      by_cases c : x = q
      · rw [if_pos c, if_pos c]
      · rw [if_neg c, if_neg c]; exact s.nd x hx hxe (kx c) 2 h1 h2
    · rw [lk_split_3 hne, lk_split_3 hne, E7 2 (by decide), N 3 (by decide) (by decide)]
      by_cases c : x = q
      · rw [if_pos c, if_pos c]
      · rw [if_neg c, if_neg c, s.nd x hx hxe (kx c) 3 h1 h2]
    · rw [lk_split_4 hne, lk_split_4 hne, N 4 (by decide) (by decide)]
      by_cases c : x = q
      · rw [if_pos c, if_pos c]
      · rw [if_neg c, if_neg c, s.nd x hx hxe (kx c) 4 h1 h2]
    · rw [lk_split_5 hne, lk_split_5 hne]
      by_cases c : x = q
      · rw [if_pos c, if_pos c]
      · rw [if_neg c, if_neg c, s.nd x hx hxe (kx c) 5 h1 h2]
  · rw [lk_split_0] at k
    rw [lk_split_5 hne] at hi
    rw [lk_split_7, lk_split_7, lk_split_8, lk_split_8, E7 4 (by decide), E7 3 (by decide), E8 4 (by decide), E8 3 (by decide)]
    by_cases c : x = q
    · rw [if_pos c, nI_toInt (by decide)] at hi
      subst c
      by_cases c1 : i = 1
      · have z : 5 * x + i = 5 * x + 1 := by omega
        rw [if_pos z, if_pos z, if_pos z, if_pos z]; exact ⟨rfl, rfl⟩
      · have z : ¬ 5 * x + i = 5 * x + 1 := by omega
        have z2 : 5 * x + i = 5 * x := by omega
        rw [if_neg z, if_neg z, if_neg z, if_neg z, if_pos z2, if_pos z2, if_pos z2, if_pos z2]; exact ⟨rfl, rfl⟩
    · rw [if_neg c] at hi k
      have hi2 : i < 5 ∧ (i : Int) < (M 5 x).toInt := by
        by_cases c2 : x = p
        · rw [if_pos c2, nI_toInt (by decide)] at hi
          refine ⟨by omega, ?_⟩
          rw [c2, h5, nI_toInt (by decide)]; omega
        · rw [if_neg c2] at hi
          have := b5 x hx k
          exact ⟨by omega, hi⟩
      have z : ¬ 5 * x + i = 5 * q + 1 := by omega
      have z2 : ¬ 5 * x + i = 5 * q := by omega
      rw [if_neg z, if_neg z, if_neg z, if_neg z, if_neg z2, if_neg z2, if_neg z2, if_neg z2]
      exact s.en x hx hxe k i hi2.2
  · rw [lk_split_0] at k
    rw [lk_split_f (by decide) (by decide) (by decide) (by decide) (by decide) (by decide) (by decide), lk_split_f (by decide) (by decide) (by decide) (by decide) (by decide) (by decide) (by decide)]
    refine s.aw x hx ?_
    by_cases c : x = q
    · rw [if_pos c] at k; exact absurd k (by decide)
    · rw [if_neg c] at k; exact k
  · by_cases c : i = t
    · rw [c]
      by_cases d : f = 12 ∨ f = 13 ∨ f = 14 ∨ f = 15 ∨ f = 16
      · rcases d with z | z | z | z | z <;> subst z
        · rw [c12, m12]
        · rw [c13, m13]
        · rw [c14, m14, s.pl 19 _ (by decide), s.rt]
        · rw [c15, m15, E7 2 (by decide)]
        · rw [c16, m16]
      · rw [lk_split_f (by omega) (by omega) (by omega) (by omega) (by omega) (by omega) (by omega), lk_split_f (by omega) (by omega) (by omega) (by omega) (by omega) (by omega) (by omega)]
        exact s.pl f t hf
    · rw [lk_split_o (by omega) c, lk_split_o (by omega) c]
      exact s.pl f i hf
  · rw [lk_split_f (by decide) (by decide) (by decide) (by decide) (by decide) (by decide) (by decide), lk_split_f (by decide) (by decide) (by decide) (by decide) (by decide) (by decide) (by decide)]; exact s.rt
  · rw [lk_split_f (by decide) (by decide) (by decide) (by decide) (by decide) (by decide) (by decide), lk_split_f (by decide) (by decide) (by decide) (by decide) (by decide) (by decide) (by decide)]; exact s.qn
  · rw [lk_split_f (by decide) (by decide) (by decide) (by decide) (by decide) (by decide) (by decide), lk_split_f (by decide) (by decide) (by decide) (by decide) (by decide) (by decide) (by decide)]; exact s.bu u hu
  · by_cases c : u = t
    · rw [c, c18, m18]
    · rw [lk_split_o (by decide) c] at b o
      rw [lk_split_o (by decide) c, lk_split_o (by decide) c]
      exact s.ab u hu b o
  · rw [lk_split_0, if_neg (by omega)]; exact s.nw
theorem lk_SX.nr (s : lk_SX 24 C M) (b5 : lk_B5 M) {t rt q : Nat} (hr : rt < 24) (kr : M 0 rt = 1) (hq : q < 24) (kq : M 0 q = 0) : lk_SX 24 (lk_nr C t rt q) (lk_nr M t rt q) := by
  have N : C 1 rt = M 1 rt := s.nd rt hr (by omega) kr 1 (by decide) (by decide)
  refine ⟨fun x hx => ?_, fun x hx => ?_, fun x hx hxe k f h1 h2 => ?_, fun x hx hxe k i hi => ?_, fun x hx k => ?_, fun f i hf => ?_, ?_, ?_, fun u hu => ?_, fun u hu b o => ?_, ?_⟩
  · rw [lk_nr_0, lk_nr_0, s.k x hx]
  · rw [lk_nr_6, lk_nr_6, s.ow x hx]
  · rw [lk_nr_0] at k
    have kx : x ≠ q → M 0 x = 1 := fun z => by rw [if_neg z] at k; exact k
    rcases lk_f15 h1 h2 with z | z | z | z | z <;> subst z
    · rw [lk_nr_1, lk_nr_1, N]
      by_cases c : x = q
      · rw [if_pos c, if_pos c]
      · rw [if_neg c, if_neg c]; exact s.nd x hx hxe (kx c) 1 h1 h2
    · rw [lk_nr_2, lk_nr_2]
      by_cases c : x = q
      · rw [if_pos c, if_pos c]
      · rw [if_neg c, if_neg c]; exact s.nd x hx hxe (kx c) 2 h1 h2
    · rw [lk_nr_3, lk_nr_3]
      by_cases c : x = q
      · rw [if_pos c, if_pos c]
      · rw [if_neg c, if_neg c]; exact s.nd x hx hxe (kx c) 3 h1 h2
    · rw [lk_nr_4, lk_nr_4]
      by_cases c : x = q
      · rw [if_pos c, if_pos c]
      · rw [if_neg c, if_neg c]; exact s.nd x hx hxe (kx c) 4 h1 h2
    · rw [lk_nr_5, lk_nr_5]
      by_cases c : x = q
      · rw [if_pos c, if_pos c]
      · rw [if_neg c, if_neg c]; exact s.nd x hx hxe (kx c) 5 h1 h2
  · rw [lk_nr_0] at k
    rw [lk_nr_5] at hi
    rw [lk_nr_7, lk_nr_7, lk_nr_8, lk_nr_8]
    by_cases c : x = q
    · rw [if_pos c, nI_toInt (by decide)] at hi
      have z : 5 * x + i = 5 * q := by omega
      rw [if_pos z, if_pos z, if_pos z, if_pos z]; exact ⟨rfl, rfl⟩
    · rw [if_neg c] at hi k
      have := b5 x hx k
      have z : ¬ 5 * x + i = 5 * q := by omega
      rw [if_neg z, if_neg z, if_neg z, if_neg z]
      exact s.en x hx hxe k i hi
  · rw [lk_nr_0] at k
    rw [lk_nr_f (by decide) (by decide) (Or.inl (by decide)), lk_nr_f (by decide) (by decide) (Or.inl (by decide))]
    refine s.aw x hx ?_
    by_cases c : x = q
    · rw [if_pos c] at k; exact absurd k (by decide)
    · rw [if_neg c] at k; exact k
  · by_cases d : f = 14
    · subst d
      by_cases c : i = t
      · rw [c, lk_nr_14, lk_nr_14]
      · have g : ∀ σ : lk_M, lk_nr σ t rt q 14 i = σ 14 i := fun σ => by
          rw [lk_nr_st, lk_st_p c]; unfold lk_mk; simp [lk_st_eq]
        rw [g C, g M]; exact s.pl 14 i hf
    · rw [lk_nr_f (by omega) d (Or.inl (by omega)), lk_nr_f (by omega) d (Or.inl (by omega))]
      exact s.pl f i hf
  · rw [lk_nr_24, lk_nr_24]
  · rw [lk_nr_f (by decide) (by decide) (Or.inr (by decide)), lk_nr_f (by decide) (by decide) (Or.inr (by decide))]; exact s.qn
  · rw [lk_nr_f (by decide) (by decide) (Or.inl (by decide)), lk_nr_f (by decide) (by decide) (Or.inl (by decide))]; exact s.bu u hu
  · rw [lk_nr_f (by decide) (by decide) (Or.inl (by decide))] at b o
    rw [lk_nr_f (by decide) (by decide) (Or.inl (by decide)), lk_nr_f (by decide) (by decide) (Or.inl (by decide))]
    exact s.ab u hu b o
  · rw [lk_nr_0, if_neg (by omega)]; exact s.nw
theorem lk_SX.two (s : lk_SX 24 C M) {p n i a b na nb rt : Nat} (h : lk_two M p n i a b na nb rt) : lk_two C p n i a b na nb rt := by
  obtain ⟨f1, f2, -⟩ := lk_two_facts h
  obtain ⟨hp, kp, lp, h5, hn, hi, e1, e2, ha, hb, h5a, h5b, hna, hnb, e3, e4, tr⟩ := h
  have N : ∀ x, x < 24 → M 0 x = 1 → ∀ f, 1 ≤ f → f ≤ 5 → C f x = M f x := fun x hx k f a b => s.nd x hx (by omega) k f a b
  have E7 : ∀ j, j < n → C 7 (5 * p + j) = M 7 (5 * p + j) := fun j hj => s.e7 hp (by omega) kp h5 (by omega) hj
  have E8 : ∀ j, j < n → C 8 (5 * p + j) = M 8 (5 * p + j) := fun j hj => s.e8 hp (by omega) kp h5 (by omega) hj
  refine ⟨hp, (s.k p hp).trans kp, by rw [N p hp kp 1 (by decide) (by decide)]; exact lp, (N p hp kp 5 (by decide) (by decide)).trans h5, hn, hi, (E8 i (by omega)).trans e1, (E8 (i + 1) (by omega)).trans e2, ha, hb, (N a ha f1 5 (by decide) (by decide)).trans h5a, (N b hb f2 5 (by decide) (by decide)).trans h5b, hna, hnb, ?_, ?_, s.TR tr⟩
  · rw [N a ha f1 3 (by decide) (by decide), E7 i (by omega)]; exact e3
  · rw [N b hb f2 3 (by decide) (by decide)]
    exact e4.trans (E7 (i + 1) (by omega)).symm
theorem lk_SX.ct (s : lk_SX 24 C M) {p n i a b na nb rt f j : Nat} (hf : f = 7 ∨ f = 8) (h : lk_two M p n i a b na nb rt) (hj : j < na + nb) : lk_ct C f a b na j = lk_ct M f a b na j := by
  obtain ⟨f1, f2, -⟩ := lk_two_facts h
  obtain ⟨hp, kp, lp, h5, hn, hi, e1, e2, ha, hb, h5a, h5b, hna, hnb, e3, e4, tr⟩ := h
  unfold lk_ct
  by_cases c : j < na
  · rw [if_pos c, if_pos c]
    rcases hf with z | z <;> subst z
    · exact s.e7 ha (by omega) f1 h5a (by omega) c
    · exact s.e8 ha (by omega) f1 h5a (by omega) c
  · rw [if_neg c, if_neg c]
    rcases hf with z | z <;> subst z
    · exact s.e7 hb (by omega) f2 h5b (by omega) (by omega)
    · exact s.e8 hb (by omega) f2 h5b (by omega) (by omega)
theorem lk_SX.bl (s : lk_SX 24 C M) {p n i a b na nb rt : Nat} (h : lk_two M p n i a b na nb rt) (h4 : 4 < na + nb) : lk_SX 24 (lk_bl C p i a b na nb) (lk_bl M p i a b na nb) := by
  have hC := s.two h
  obtain ⟨f1, f2, f3, f4, hab, hap, hbp, -, -⟩ := lk_two_facts h
  have ha := h.2.2.2.2.2.2.2.2.1
  have hb := h.2.2.2.2.2.2.2.2.2.1
  have hna := h.2.2.2.2.2.2.2.2.2.2.2.2.1
  have hnb := h.2.2.2.2.2.2.2.2.2.2.2.2.2.1
  have g : ∀ (σ : lk_M) f x, f ≠ 2 → f ≠ 3 → f ≠ 5 → f ≠ 7 → f ≠ 8 → lk_bl σ p i a b na nb f x = σ f x := fun σ f x h2 h3 h5 h7 h8 => lk_bl_f hab hna hnb h4 h2 h3 h5 h7 h8
  have ct7 : lk_ct C 7 a b na ((na + nb + 1) / 2 - 1) = lk_ct M 7 a b na ((na + nb + 1) / 2 - 1) := s.ct (Or.inl rfl) h (by omega)
  refine s.pg (fun f j hf => g C f j (by omega) (by omega) (by omega) (by omega) (by omega)) (fun f j hf => g M f j (by omega) (by omega) (by omega) (by omega) (by omega)) (fun x hx => ?_) (fun x hx => ?_) (fun x hx k => ?_) (fun x hx hxe k f h1 h2 => ?_) (fun x hx hxe k j hj => ?_) (g C 0 24 (by decide) (by decide) (by decide) (by decide) (by decide))
  · rw [g C 0 x (by decide) (by decide) (by decide) (by decide) (by decide), g M 0 x (by decide) (by decide) (by decide) (by decide) (by decide)]; exact s.k x hx
  · rw [g C 6 x (by decide) (by decide) (by decide) (by decide) (by decide), g M 6 x (by decide) (by decide) (by decide) (by decide) (by decide)]; exact s.ow x hx
  · rw [g M 0 x (by decide) (by decide) (by decide) (by decide) (by decide)] at k; exact k
  · rw [g M 0 x (by decide) (by decide) (by decide) (by decide) (by decide)] at k
    have N := s.nd x hx hxe k
    rcases lk_f15 h1 h2 with z | z | z | z | z <;> subst z
    · rw [g C 1 x (by decide) (by decide) (by decide) (by decide) (by decide), g M 1 x (by decide) (by decide) (by decide) (by decide) (by decide)]; exact N 1 h1 h2
    · rw [lk_bl_at hab hna hnb h4, lk_bl_at hab hna hnb h4, ct7, lk_shr_f C a b na nb (by decide) (by decide) (by decide), lk_shr_f M a b na nb (by decide) (by decide) (by decide), N 2 h1 h2]
    · rw [lk_bl_at hab hna hnb h4, lk_bl_at hab hna hnb h4, ct7, lk_shr_f C a b na nb (by decide) (by decide) (by decide), lk_shr_f M a b na nb (by decide) (by decide) (by decide), N 3 h1 h2]
    · rw [g C 4 x (by decide) (by decide) (by decide) (by decide) (by decide), g M 4 x (by decide) (by decide) (by decide) (by decide) (by decide)]; exact N 4 h1 h2
    · rw [lk_bl_n hC h4, lk_bl_n h h4, N 5 h1 h2]
  · rw [g M 0 x (by decide) (by decide) (by decide) (by decide) (by decide)] at k
    have kC : lk_zi C 0 x = 1 := lk_z1.mpr ((s.k x hx).trans k)
    have kM : lk_zi M 0 x = 1 := lk_z1.mpr k
    have hjC : (j : Int) < lk_zi (lk_bl C p i a b na nb) 5 x := by
      show (j : Int) < (lk_bl C p i a b na nb 5 x).toInt
      rw [lk_bl_n hC h4, s.nd x hx hxe k 5 (by decide) (by decide), ← lk_bl_n h h4]; exact hj
    have key : ∀ f, f = 7 ∨ f = 8 → lk_bl C p i a b na nb f (5 * x + j) = lk_bl M p i a b na nb f (5 * x + j) := fun f hf => by
      rw [(lk_bl_e hf hC h4 kC hx hjC).2, (lk_bl_e hf h h4 kM hx hj).2]
      rw [lk_bl_n h h4] at hj
      by_cases c : x = a
      · rw [if_pos c, if_pos c]
        rw [if_pos c, nI_toInt (by omega)] at hj
        exact s.ct hf h (by omega)
      · rw [if_neg c, if_neg c]
        rw [if_neg c] at hj
        by_cases c2 : x = b
        · rw [if_pos c2, if_pos c2]
          rw [if_pos c2, nI_toInt (by omega)] at hj
          exact s.ct hf h (by omega)
        · rw [if_neg c2, if_neg c2, ct7]
          rw [if_neg c2] at hj
          by_cases c3 : f = 7 ∧ x = p ∧ j = i
          · rw [if_pos c3, if_pos c3]
          · rw [if_neg c3, if_neg c3]
            rcases hf with z | z <;> subst z
            · exact (s.en x hx hxe k j hj).1
            · exact (s.en x hx hxe k j hj).2
    exact ⟨key 7 (Or.inl rfl), key 8 (Or.inr rfl)⟩
theorem lk_take_f {a b na nb f x : Nat} (h3 : f ≠ 3) (h4 : f ≠ 4) (h5 : f ≠ 5) (h7 : f ≠ 7) (h8 : f ≠ 8) : cc_take C a b na nb f x = C f x := by
  unfold cc_take
  rw [lk_st_f h4, lk_st_f h3, lk_mvF_f a b h5 h7 h8]
/-- b's entries go into a, b left out -/
theorem lk_SX.take (s : lk_SX 24 C M) {p n i a b na nb rt : Nat} (h : lk_two M p n i a b na nb rt) (h4 : na + nb ≤ 4) : lk_SX b (cc_take C a b na nb) (lk_m2 M a b na nb) := by
  have b5 := lk_B5_of h.2.2.2.2.2.2.2.2.2.2.2.2.2.2.2.2
  have hC := s.two h
  obtain ⟨f1, f2, f3, f4, hab, hap, hbp, -, -⟩ := lk_two_facts h
  have h' := h
  obtain ⟨hp, kp, lp, h5, hn, hi, e1, e2, ha, hb, h5a, h5b, hna, hnb, e3, e4, tr⟩ := h
  have c5a : C 5 a = nI na := (s.nd a ha (by omega) f1 5 (by decide) (by decide)).trans h5a
  have c5b : C 5 b = nI nb := (s.nd b hb (by omega) f2 5 (by decide) (by decide)).trans h5b
  have gC : ∀ f x, f ≠ 3 → f ≠ 4 → f ≠ 5 → f ≠ 7 → f ≠ 8 → cc_take C a b na nb f x = C f x := fun f x h3 h4 h5 h7 h8 => lk_take_f h3 h4 h5 h7 h8
  have gM : ∀ f x, f ≠ 3 → f ≠ 4 → f ≠ 5 → f ≠ 7 → f ≠ 8 → lk_m2 M a b na nb f x = M f x := fun f x h3 h4 h5 h7 h8 => lk_m2_f h3 h4 h5 h7 h8
  have t34 : ∀ f x, f = 3 ∨ f = 4 → cc_take C a b na nb f x = if x = a then C f b else C f x := fun f x h => by
    unfold cc_take
    rcases h with z | z <;> subst z
    · rw [lk_st_f (by decide), lk_st_eq]
      by_cases c : x = a
      · rw [if_pos ⟨rfl, c⟩, if_pos c]
      · rw [if_neg (fun z => c z.2), if_neg c, lk_mvF_f a b (by decide) (by decide) (by decide)]
    · rw [lk_st_eq]
      by_cases c : x = a
      · rw [if_pos ⟨rfl, c⟩, if_pos c]
      · rw [if_neg (fun z => c z.2), if_neg c, lk_st_f (by decide), lk_mvF_f a b (by decide) (by decide) (by decide)]
  have t5 : ∀ x, x ≠ b → cc_take C a b na nb 5 x = if x = a then nI (na + nb) else C 5 x := fun x hxb => by
    unfold cc_take
    rw [lk_st_f (by decide), lk_st_f (by decide)]
    by_cases c : x = a
    · rw [if_pos c, c]; exact (lk_mvF_5 a b hab nb na nb C (Nat.le_refl _) c5a c5b).1
    · rw [if_neg c, lk_mvF_5o a b c hxb]
  refine s.pg (fun f x hf => gC f x (by omega) (by omega) (by omega) (by omega) (by omega)) (fun f x hf => gM f x (by omega) (by omega) (by omega) (by omega) (by omega)) (fun x hx => ?_) (fun x hx => ?_) (fun x hx k => ?_) (fun x hx hxe k f h1 h2 => ?_) (fun x hx hxe k j hj => ?_) (gC 0 24 (by decide) (by decide) (by decide) (by decide) (by decide))
  · rw [gC 0 x (by decide) (by decide) (by decide) (by decide) (by decide), gM 0 x (by decide) (by decide) (by decide) (by decide) (by decide)]; exact s.k x hx
  · rw [gC 6 x (by decide) (by decide) (by decide) (by decide) (by decide), gM 6 x (by decide) (by decide) (by decide) (by decide) (by decide)]; exact s.ow x hx
  · rw [gM 0 x (by decide) (by decide) (by decide) (by decide) (by decide)] at k; exact k
  · rw [gM 0 x (by decide) (by decide) (by decide) (by decide) (by decide)] at k
    have N := s.nd x hx (by omega) k
    have Nb := s.nd b hb (by omega) f2
    rcases lk_f15 h1 h2 with z | z | z | z | z <;> subst z
    · rw [gC 1 x (by decide) (by decide) (by decide) (by decide) (by decide), gM 1 x (by decide) (by decide) (by decide) (by decide) (by decide)]; exact N 1 h1 h2
    · rw [gC 2 x (by decide) (by decide) (by decide) (by decide) (by decide), gM 2 x (by decide) (by decide) (by decide) (by decide) (by decide)]; exact N 2 h1 h2
    · rw [t34 3 x (Or.inl rfl), lk_m2_34 (Or.inl rfl), N 3 h1 h2, Nb 3 h1 h2]
    · rw [t34 4 x (Or.inr rfl), lk_m2_34 (Or.inr rfl), N 4 h1 h2, Nb 4 h1 h2]
    · rw [t5 x hxe, lk_m2_5 h5a, N 5 h1 h2]
  · rw [gM 0 x (by decide) (by decide) (by decide) (by decide) (by decide)] at k
    rw [lk_m2_5 h5a] at hj
    have key : ∀ f, f = 7 ∨ f = 8 → cc_take C a b na nb f (5 * x + j) = lk_m2 M a b na nb f (5 * x + j) := fun f hf => by
      obtain ⟨i1, i2, i3⟩ := lk_mvF_at (f := f) hf hab nb na nb C (Nat.le_refl _) (by omega) (by omega)
      unfold cc_take
      rw [lk_st_f (by omega), lk_st_f (by omega)]
      by_cases c : x = a
      · rw [if_pos c, nI_toInt (by omega)] at hj
        rw [c]
        refine (i1 j (by omega)).trans ?_
        rw [lk_m2_78 hf hab (by omega) (by omega)]
        have := s.ct (j := j) hf h' (by omega)
        rw [if_pos (show a = a ∧ j < na + nb from ⟨rfl, by omega⟩), ← this]
        rfl
      · rw [if_neg c] at hj
        have j5 : j < 5 := by have := b5 x hx k; omega
        rw [i3 x j c hxe j5, lk_m2_78 hf hab (by omega) j5, if_neg (fun z => c z.1)]
        rcases hf with z | z <;> subst z
        · exact (s.en x hx (by omega) k j hj).1
        · exact (s.en x hx (by omega) k j hj).2
    exact ⟨key 7 (Or.inl rfl), key 8 (Or.inr rfl)⟩
theorem lk_mask_cong {P Q : Nat → Prop} {t : Nat} : ∀ n, (∀ u, u < n → (P u ↔ Q u)) → lk_mask P t n = lk_mask Q t n := by
  intro n
  induction n with
  | zero => intro _; rfl
  | succ n ih =>
    intro h
    rw [lk_mask_s, lk_mask_s, ih (fun u hu => h u (by omega))]
    by_cases c : P n ∧ n ≠ t
    · rw [if_pos c, if_pos ⟨(h n (by omega)).mp c.1, c.2⟩]
    · rw [if_neg c, if_neg (fun z => c ⟨(h n (by omega)).mpr z.1, z.2⟩)]
theorem lk_cdie_at (σ : lk_M) (q t n f i : Nat) : cc_die σ q t n f i = if f = 0 ∧ i = q then (if lk_mask (fun u => σ 11 u = 0) t 4 = 0 then 0 else 2) else if f = 9 ∧ i = q then lk_mask (fun u => σ 11 u = 0) t 4 else lk_lq σ (nI q) n f i := by
  unfold cc_die cc_du
  simp only [lk_st_eq]
theorem lk_die_lq {σ : lk_M} {q t n f i : Nat} (h0 : ¬ (f = 0 ∧ i = q)) (h9 : ¬ (f = 9 ∧ i = q)) : mm_die σ q t n f i = lk_lq σ (nI q) n f i := by
  rw [lk_die_at, if_neg h0, if_neg h9, lk_lq_st, lk_st_eq, lk_up_eq]
  by_cases c10 : f = 10
  · rw [if_pos c10, if_neg (show ¬ (f = 24 ∧ i = 1) by omega), if_pos c10]
  · rw [if_neg c10, if_neg c10]
theorem lk_SX.die {e : Nat} (s : lk_SX e C M) {q t n : Nat} (hq : q < 24) (he : e = q ∨ e = 24) : lk_SX 24 (cc_die C q t n) (mm_die M q t n) := by
  have l := s.lq (x := nI q) (n := n)
  have em : lk_mask (fun u => C 11 u = 0) t 4 = lk_mask (fun u => M 11 u ≠ 0) t 4 := lk_mask_cong 4 (fun u hu => (s.bu u hu).1)
  have gC : ∀ f i, ¬ (f = 0 ∧ i = q) → ¬ (f = 9 ∧ i = q) → cc_die C q t n f i = lk_lq C (nI q) n f i := fun f i h0 h9 => by rw [lk_cdie_at, if_neg h0, if_neg h9]
  have gM : ∀ f i, ¬ (f = 0 ∧ i = q) → ¬ (f = 9 ∧ i = q) → mm_die M q t n f i = lk_lq M (nI q) n f i := fun f i h0 h9 => lk_die_lq h0 h9
  have nq : ∀ x, mm_die M q t n 0 x = 1 → x ≠ q := fun x k z => by rw [z] at k; exact lk_die_0 k
  have ne : ∀ x, x < 24 → x ≠ q → x ≠ e := fun x hx z w => by rcases he with a | a <;> omega
  refine ⟨fun x hx => ?_, fun x hx => ?_, fun x hx hxe k f h1 h2 => ?_, fun x hx hxe k j hj => ?_, fun x hx k => ?_, fun f i hf => ?_, ?_, ?_, fun u hu => ?_, fun u hu b o => ?_, ?_⟩
  · by_cases c : x = q
    · have d0 : mm_die M q t n 0 x = if lk_mask (fun u => M 11 u ≠ 0) t 4 = 0 then 0 else 2 := by rw [lk_die_at, if_pos ⟨rfl, c⟩]
      have d1 : cc_die C q t n 0 x = if lk_mask (fun u => C 11 u = 0) t 4 = 0 then 0 else 2 := by rw [lk_cdie_at, if_pos ⟨rfl, c⟩]
      rw [d0, d1, em]
    · rw [gC 0 x (by omega) (by omega), gM 0 x (by omega) (by omega)]; exact l.k x hx
  · rw [gC 6 x (by omega) (by omega), gM 6 x (by omega) (by omega)]; exact l.ow x hx
  · have z := nq x k
    rw [gM 0 x (by omega) (by omega)] at k
    rw [gC f x (by omega) (by omega), gM f x (by omega) (by omega)]; exact l.nd x hx (ne x hx z) k f h1 h2
  · have z := nq x k
    rw [gM 0 x (by omega) (by omega)] at k
    rw [gM 5 x (by omega) (by omega)] at hj
    rw [gC 7 _ (by omega) (by omega), gM 7 _ (by omega) (by omega), gC 8 _ (by omega) (by omega), gM 8 _ (by omega) (by omega)]
    exact l.en x hx (ne x hx z) k j hj
  · by_cases c : x = q
    · have d9 : mm_die M q t n 9 q = lk_mask (fun u => M 11 u ≠ 0) t 4 := by rw [lk_die_at, if_neg (by omega), if_pos ⟨rfl, rfl⟩]
      rw [c, d9, lk_cdie_at, if_neg (by omega), if_pos ⟨rfl, rfl⟩, em]
    · rw [gM 0 x (by omega) (by omega)] at k
      rw [gC 9 x (by omega) (by omega), gM 9 x (by omega) (by omega)]; exact l.aw x hx k
  · rw [gC f i (by omega) (by omega), gM f i (by omega) (by omega)]; exact l.pl f i hf
  · rw [gC 24 0 (by omega) (by omega), gM 24 0 (by omega) (by omega)]; exact l.rt
  · rw [gC 24 1 (by omega) (by omega), gM 24 1 (by omega) (by omega)]; exact l.qn
  · rw [gC 11 u (by omega) (by omega), gM 11 u (by omega) (by omega)]; exact l.bu u hu
  · rw [gM 11 u (by omega) (by omega)] at b
    rw [gM 12 u (by omega) (by omega)] at o
    rw [gC 18 u (by omega) (by omega), gM 18 u (by omega) (by omega)]; exact l.ab u hu b o
  · rw [gC 0 24 (by omega) (by omega)]; exact l.nw
theorem lk_SX.merge (s : lk_SX 24 C M) {t p n i a b na nb rt nq : Nat} (h : lk_two M p n i a b na nb rt) (h4 : na + nb ≤ 4) : lk_SX 24 (cc_merge C t p n i a b na nb rt nq) (mm_merge M t p n i a b na nb rt nq) := by
  have e10 : C 10 = M 10 := funext (fun j => s.pl 10 j (by decide))
  have tr3 := lk_m3_TR (t := t) (nq := nq) h h4
  obtain ⟨f1, f2, f3, f4, hab, hap, hbp, -, -⟩ := lk_two_facts h
  have h' := h
  obtain ⟨hp, kp, lp, h5, hn, hi, e1, e2, ha, hb, h5a, h5b, hna, hnb, e3, e4, tr⟩ := h
  have d := (s.take h' h4).die (t := t) (n := nq) hb (Or.inl rfl)
  have kd : mm_die (lk_m2 M a b na nb) b t nq 0 p = 1 := by
    rw [lk_die_f (Or.inr (Ne.symm hbp)) (Or.inr (Ne.symm hbp)) (by decide) (Or.inl (by decide)), lk_m2_f (by decide) (by decide) (by decide) (by decide) (by decide)]; exact kp
  have d5 : mm_die (lk_m2 M a b na nb) b t nq 5 p = nI n := by
    rw [lk_die_f (Or.inl (by decide)) (Or.inl (by decide)) (by decide) (Or.inl (by decide)), lk_m2_5 h5a, if_neg (Ne.symm hap)]; exact h5
  have bd : lk_B5 (mm_die (lk_m2 M a b na nb) b t nq) := fun x hx k => by
    have hxb : x ≠ b := fun z => by rw [z] at k; exact lk_die_0 k
    rw [lk_die_f (Or.inr hxb) (Or.inr hxb) (by decide) (Or.inl (by decide)), lk_m2_f (by decide) (by decide) (by decide) (by decide) (by decide)] at k
    rw [lk_die_f (Or.inl (by decide)) (Or.inl (by decide)) (by decide) (Or.inl (by decide)), lk_m2_5 h5a]
    by_cases c : x = a
    · rw [if_pos c, nI_toInt (by omega)]; omega
    · rw [if_neg c]; exact lk_B5_of tr x hx k
  have m3 : lk_SX 24 (lk_st (lk_del (cc_die (cc_take C a b na nb) b t nq) p i n) 8 (5 * p + i) (nI a)) (lk_m3 M t p n i a b na nb nq) := (d.del bd hp (by omega) kd d5 hn).st8 rfl
  have k3 : lk_m3 M t p n i a b na nb nq 0 p = 1 := (lk_m3_0 (Ne.symm hbp)).trans kp
  unfold cc_merge mm_merge
  rw [lk_m3_e, e10]
  by_cases c : n - 1 = 1
  · rw [if_pos c, if_pos c]
    unfold cc_shrinks mm_shrinks
    rw [m3.nd p hp (by omega) k3 4 (by decide) (by decide)]
    by_cases c2 : p = rt ∧ lk_m3 M t p n i a b na nb nq 4 p = -1
    · rw [if_pos c2, if_pos c2]
      have n3 : lk_m3 M t p n i a b na nb nq 5 p = nI (n - 1) := by rw [lk_m3_5 h5a, if_pos rfl]
      have e8 := m3.e8 (i := 0) hp (by omega) k3 n3 (by omega) (by omega)
      exact (m3.st24 e8).die hp (Or.inr rfl)
    · rw [if_neg c2, if_neg c2]; exact m3.cq
  · rw [if_neg c, if_neg c]; exact m3
end Alike
