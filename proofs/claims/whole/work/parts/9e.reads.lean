/-! both sides begin alike, and read alike -/
section Reads
variable {e : Nat} {C M : lk_M}
theorem lk_SX.st18 (s : lk_SX e C M) {i : Nat} {v w : Int32} (hv : v = w) : lk_SX e (lk_st C 18 i v) (lk_st M 18 i w) := by
  subst hv
  have g : ∀ (σ : lk_M) a j, a ≠ 18 → lk_st σ 18 i v a j = σ a j := fun σ a j h => lk_st_f h
  refine ⟨fun x hx => ?_, fun x hx => ?_, fun x hx hxe k a h1 h2 => ?_, fun x hx hxe k j hj => ?_, fun x hx k => ?_, fun a j ha => ?_, ?_, ?_, fun t ht => ?_, fun t ht b o => ?_, ?_⟩
  · rw [g C 0 x (by omega), g M 0 x (by omega)]; exact s.k x hx
  · rw [g C 6 x (by omega), g M 6 x (by omega)]; exact s.ow x hx
  · rw [g M 0 x (by omega)] at k
    rw [g C a x (by omega), g M a x (by omega)]; exact s.nd x hx hxe k a h1 h2
  · rw [g M 0 x (by omega)] at k
    rw [g M 5 x (by omega)] at hj
    rw [g C 7 _ (by omega), g M 7 _ (by omega), g C 8 _ (by omega), g M 8 _ (by omega)]; exact s.en x hx hxe k j hj
  · rw [g M 0 x (by omega)] at k
    rw [g C 9 x (by omega), g M 9 x (by omega)]; exact s.aw x hx k
  · rw [g C a j (by omega), g M a j (by omega)]; exact s.pl a j ha
  · rw [g C 24 0 (by omega), g M 24 0 (by omega)]; exact s.rt
  · rw [g C 24 1 (by omega), g M 24 1 (by omega)]; exact s.qn
  · rw [g C 11 t (by omega), g M 11 t (by omega)]; exact s.bu t ht
  · rw [g M 11 t (by omega)] at b
    rw [g M 12 t (by omega)] at o
    rw [lk_st_eq, lk_st_eq]
    by_cases c : 18 = 18 ∧ t = i
    · rw [if_pos c, if_pos c]
    · rw [if_neg c, if_neg c]; exact s.ab t ht b o
  · rw [g C 0 24 (by omega)]; exact s.nw
theorem lk_SX.st11 (s : lk_SX e C M) {i : Nat} (h : C 18 i = M 18 i) : lk_SX e (lk_st C 11 i 0) (lk_st M 11 i 1) := by
  have g : ∀ (σ : lk_M) v a j, a ≠ 11 → lk_st σ 11 i v a j = σ a j := fun σ v a j h => lk_st_f h
  refine ⟨fun x hx => ?_, fun x hx => ?_, fun x hx hxe k a h1 h2 => ?_, fun x hx hxe k j hj => ?_, fun x hx k => ?_, fun a j ha => ?_, ?_, ?_, fun t ht => ?_, fun t ht b o => ?_, ?_⟩
  · rw [g C 0 0 x (by omega), g M 1 0 x (by omega)]; exact s.k x hx
  · rw [g C 0 6 x (by omega), g M 1 6 x (by omega)]; exact s.ow x hx
  · rw [g M 1 0 x (by omega)] at k
    rw [g C 0 a x (by omega), g M 1 a x (by omega)]; exact s.nd x hx hxe k a h1 h2
  · rw [g M 1 0 x (by omega)] at k
    rw [g M 1 5 x (by omega)] at hj
    rw [g C 0 7 _ (by omega), g M 1 7 _ (by omega), g C 0 8 _ (by omega), g M 1 8 _ (by omega)]; exact s.en x hx hxe k j hj
  · rw [g M 1 0 x (by omega)] at k
    rw [g C 0 9 x (by omega), g M 1 9 x (by omega)]; exact s.aw x hx k
  · rw [g C 0 a j (by omega), g M 1 a j (by omega)]; exact s.pl a j ha
  · rw [g C 0 24 0 (by omega), g M 1 24 0 (by omega)]; exact s.rt
  · rw [g C 0 24 1 (by omega), g M 1 24 1 (by omega)]; exact s.qn
  · rw [lk_st_eq, lk_st_eq]
    by_cases c : 11 = 11 ∧ t = i
    · rw [if_pos c, if_pos c]; exact ⟨⟨fun _ => by decide, fun _ => rfl⟩, Or.inl rfl⟩
    · rw [if_neg c, if_neg c]; exact s.bu t ht
  · rw [g M 1 12 t (by omega)] at o
    rw [g C 0 18 t (by omega), g M 1 18 t (by omega)]
    by_cases c : t = i
    · rw [c]; exact h
    · rw [lk_st_p c] at b; exact s.ab t ht b o
  · rw [g C 0 0 24 (by omega)]; exact s.nw
theorem lk_SX.st12 (s : lk_SX e C M) {i : Nat} {v : Int32} (h : C 18 i = M 18 i) : lk_SX e (lk_st C 12 i v) (lk_st M 12 i v) := by
  have g : ∀ (σ : lk_M) a j, a ≠ 12 → lk_st σ 12 i v a j = σ a j := fun σ a j h => lk_st_f h
  refine ⟨fun x hx => ?_, fun x hx => ?_, fun x hx hxe k a h1 h2 => ?_, fun x hx hxe k j hj => ?_, fun x hx k => ?_, fun a j ha => ?_, ?_, ?_, fun t ht => ?_, fun t ht b o => ?_, ?_⟩
  · rw [g C 0 x (by omega), g M 0 x (by omega)]; exact s.k x hx
  · rw [g C 6 x (by omega), g M 6 x (by omega)]; exact s.ow x hx
  · rw [g M 0 x (by omega)] at k
    rw [g C a x (by omega), g M a x (by omega)]; exact s.nd x hx hxe k a h1 h2
  · rw [g M 0 x (by omega)] at k
    rw [g M 5 x (by omega)] at hj
    rw [g C 7 _ (by omega), g M 7 _ (by omega), g C 8 _ (by omega), g M 8 _ (by omega)]; exact s.en x hx hxe k j hj
  · rw [g M 0 x (by omega)] at k
    rw [g C 9 x (by omega), g M 9 x (by omega)]; exact s.aw x hx k
  · rw [lk_st_eq, lk_st_eq]
    by_cases c : a = 12 ∧ j = i
    · rw [if_pos c, if_pos c]
    · rw [if_neg c, if_neg c]; exact s.pl a j ha
  · rw [g C 24 0 (by omega), g M 24 0 (by omega)]; exact s.rt
  · rw [g C 24 1 (by omega), g M 24 1 (by omega)]; exact s.qn
  · rw [g C 11 t (by omega), g M 11 t (by omega)]; exact s.bu t ht
  · rw [g M 11 t (by omega)] at b
    rw [g C 18 t (by omega), g M 18 t (by omega)]
    by_cases c : t = i
    · rw [c]; exact h
    · rw [lk_st_p c] at o; exact s.ab t ht b o
  · rw [g C 0 24 (by omega)]; exact s.nw
theorem lk_st_comm (σ : lk_M) {f g i j : Nat} {v w : Int32} (h : f ≠ g) : lk_st (lk_st σ f i v) g j w = lk_st (lk_st σ g j w) f i v := by
  funext a b
  rw [lk_st_eq, lk_st_eq, lk_st_eq, lk_st_eq]
  by_cases c : a = g ∧ b = j
  · rw [if_pos c, if_neg (by omega), if_pos c]
  · rw [if_neg c, if_neg c]
theorem lk_nop_comm (σ : lk_M) {t g j : Nat} {w : Int32} (h : 19 ≠ g) : lk_st (lk_nop σ t) g j w = lk_nop (lk_st σ g j w) t := by
  funext a b
  unfold lk_nop
  rw [lk_st_eq, lk_up_eq, lk_up_eq, lk_st_f (b := 19) h, lk_st_eq]
  by_cases c : a = g ∧ b = j
  · rw [if_pos c, if_neg (show ¬ a = 19 by omega), if_pos c]
  · rw [if_neg c, if_neg c]
theorem lk_lq_comm (σ : lk_M) {x : Int32} {n g j : Nat} {w : Int32} (h10 : 10 ≠ g) (h24 : 24 ≠ g) : lk_st (lk_lq σ x n) g j w = lk_lq (lk_st σ g j w) x n := by
  have e10 : lk_st σ g j w 10 = σ 10 := lk_st_fn h10
  rw [lk_lq_st, lk_lq_st, e10]
  funext a b
  rw [lk_st_eq, lk_st_eq, lk_st_eq, lk_up_eq, lk_up_eq, lk_st_eq]
  by_cases c : a = g ∧ b = j
  · rw [if_pos c, if_neg (by omega), if_neg (by omega), if_pos c]
  · rw [if_neg c, if_neg c]
/-- a beginning, up to the page it is about -/
theorem lk_SX.beg (s : lk_SX 24 C M) {t : Nat} {o k v : Int32} : lk_SX 24 (lk_st (cc_beg0 C t o k v) 18 t (-1)) (mm_beg0 M t o k v) := by
  have e1 : lk_st (cc_beg0 C t o k v) 18 t (-1) = lk_srch (lk_nop (lk_st (lk_st (lk_st (lk_st (lk_st (lk_st C 18 t (-1)) 11 t 0) 12 t o) 15 t k) 17 t v) 16 t 0) t) t (C 24 0) := by
    unfold cc_beg0 lk_srch
    rw [lk_st_comm _ (by decide), lk_st_comm _ (f := 13) (by decide), lk_nop_comm _ (by decide), lk_st_comm _ (f := 16) (g := 18) (by decide), lk_st_comm _ (f := 17) (g := 18) (by decide), lk_st_comm _ (f := 15) (g := 18) (by decide), lk_st_comm _ (f := 12) (g := 18) (by decide), lk_st_comm _ (f := 11) (g := 18) (by decide)]
  have e2 : mm_beg0 M t o k v = lk_srch (lk_nop (lk_st (lk_st (lk_st (lk_st (lk_st (lk_st M 18 t (-1)) 11 t 1) 12 t o) 15 t k) 17 t v) 16 t 0) t) t (M 24 0) := by
    unfold mm_beg0
    rw [lk_st_comm _ (f := 17) (g := 18) (by decide), lk_st_comm _ (f := 16) (g := 18) (by decide), lk_st_comm _ (f := 15) (g := 18) (by decide), lk_st_comm _ (f := 12) (g := 18) (by decide), lk_st_comm _ (f := 11) (g := 18) (by decide), lk_st_comm _ (f := 16) (g := 17) (by decide)]
  rw [e1, e2]
  have s1 := s.st18 (i := t) (v := -1) rfl
  have h1 : lk_st C 18 t (-1) 18 t = lk_st M 18 t (-1) 18 t := by rw [lk_st_s, lk_st_s]
  have s2 := s1.st11 h1
  have h2 : lk_st (lk_st C 18 t (-1)) 11 t 0 18 t = lk_st (lk_st M 18 t (-1)) 11 t 1 18 t := by rw [lk_st_f (a := 11) (by decide), lk_st_f (a := 11) (by decide)]; exact h1
  exact ((((s2.st12 (v := o) h2).st rfl (by decide)).st rfl (by decide)).st rfl (by decide)).nop.srch s.rt
theorem lk_SX.no18 {i : Nat} {v : Int32} (s : lk_SX 24 (lk_st C 18 i v) M) (h : ¬ (M 12 i = 3 ∨ M 12 i = 4)) : lk_SX 24 C M := by
  have g : ∀ a j, a ≠ 18 → C a j = lk_st C 18 i v a j := fun a j h => (lk_st_f h).symm
  refine ⟨fun x hx => ?_, fun x hx => ?_, fun x hx hxe k a h1 h2 => ?_, fun x hx hxe k j hj => ?_, fun x hx k => ?_, fun a j ha => ?_, ?_, ?_, fun t ht => ?_, fun t ht b o => ?_, ?_⟩
  · rw [g 0 x (by omega)]; exact s.k x hx
  · rw [g 6 x (by omega)]; exact s.ow x hx
  · rw [g a x (by omega)]; exact s.nd x hx hxe k a h1 h2
  · rw [g 7 _ (by omega), g 8 _ (by omega)]; exact s.en x hx hxe k j hj
  · rw [g 9 x (by omega)]; exact s.aw x hx k
  · rw [g a j (by omega)]; exact s.pl a j ha
  · rw [g 24 0 (by omega)]; exact s.rt
  · rw [g 24 1 (by omega)]; exact s.qn
  · rw [g 11 t (by omega)]; exact s.bu t ht
  · have c : t ≠ i := fun z => by rw [z] at o; exact h o
    have := s.ab t ht b o
    rw [lk_st_p c] at this
    exact this
  · rw [g 0 24 (by omega)]; exact s.nw
theorem lk_SX.begin (s : lk_SX 24 C M) (h : lk_Inv M) {t nq rt x : Nat} {o k v : Int32} (ht : t < 4) (hok : lk_bok (nI t) o k) (hnq : nq ≤ 12) (hq : M 24 1 = nI nq) (hx0 : 0 < nq → x < 24 ∧ M 10 0 = nI x) : lk_SX 24 (if o = 3 then cc_choose (cc_beg0 C t o k v) t nq rt x else cc_beg0 C t o k v) (if o = 3 then mm_bj (mm_beg0 M t o k v) t nq rt x else mm_beg0 M t o k v) := by
  have b := s.beg (t := t) (o := o) (k := k) (v := v)
  have e12 : mm_beg0 M t o k v 12 t = o := by rw [lk_beg_at]; simp
  have bp : ∀ f i, f < 11 → mm_beg0 M t o k v f i = M f i := fun f i hf => by
    rw [lk_beg_at]; repeat rw [if_neg (by omega)]
  by_cases c : o = 3
  · rw [if_pos c, if_pos c]
    unfold cc_choose mm_bj
    by_cases c0 : nq = 0
    · rw [if_pos c0, if_pos c0]; exact b.st rfl (by decide)
    · rw [if_neg c0, if_neg c0]
      obtain ⟨hx, ex⟩ := hx0 (by omega)
      have kx : M 0 x = 1 := by
        obtain ⟨m, hm, q1, q2⟩ := h.2.2.1
        have e : m = nq := lk_nI_inj (by omega) (by omega) (q1.symm.trans hq)
        obtain ⟨y, hy, y1, y2⟩ := q2 0 (by omega)
        have : y = x := lk_nI_inj (by omega) (by omega) (y1.symm.trans ex)
        rw [← this]; exact y2
      have kx0 : mm_beg0 M t o k v 0 x = 1 := (bp 0 x (by decide)).trans kx
      by_cases c1 : x = rt
      · rw [if_pos c1, if_pos c1, ← lk_lq_comm _ (by decide) (by decide), lk_lq_comm _ (by decide) (by decide)]
        exact (b.lq (x := nI x) (n := nq)).st rfl (by decide)
      · rw [if_neg c1, if_neg c1, ← lk_lq_comm _ (by decide) (by decide)]
        have z := b.lq (x := nI x) (n := nq)
        rw [← lk_lq_comm _ (by decide) (by decide)] at z
        have e3 : cc_beg0 C t o k v 3 x = mm_beg0 M t o k v 3 x := by
          have := b.nd x hx (by omega) kx0 3 (by decide) (by decide)
          rw [lk_st_f (by decide)] at this; exact this
        have e1 : cc_beg0 C t o k v 1 x = mm_beg0 M t o k v 1 x := by
          have := b.nd x hx (by omega) kx0 1 (by decide) (by decide)
          rw [lk_st_f (by decide)] at this; exact this
        have z2 := (((z.st (f := 15) (i := t) (v := 0) rfl (by decide)).st18 (i := t) (v := nI x) rfl).st (f := 15) (i := t) e3 (by decide)).st (f := 16) (i := t) (congrArg (· + 1) e1) (by decide)
        have eL : lk_st (lk_st (lk_st (lk_st (lk_st (lk_lq (cc_beg0 C t o k v) (nI x) nq) 18 t (-1)) 15 t 0) 18 t (nI x)) 15 t (cc_beg0 C t o k v 3 x)) 16 t (cc_beg0 C t o k v 1 x + 1) = lk_st (lk_st (lk_st (lk_lq (cc_beg0 C t o k v) (nI x) nq) 18 t (nI x)) 15 t (cc_beg0 C t o k v 3 x)) 16 t (cc_beg0 C t o k v 1 x + 1) := by
          rw [lk_st_comm _ (f := 18) (g := 15) (by decide), lk_st_st, lk_st_comm _ (f := 15) (g := 18) (by decide), lk_st_st]
        rw [← eL]
        exact z2
  · rw [if_neg c, if_neg c]
    refine b.no18 ?_
    rw [e12]
    rintro (z | z)
    · exact c z
    · have := hok.2.1.2
      rw [z] at this
      exact absurd this (by decide)
/-- the first memories -/
theorem lk_cI_at (f i : Nat) : cc_I f i = if f = 6 ∧ i = 0 then -1 else if f = 5 ∧ i = 0 then 0 else if f = 4 ∧ i = 0 then -1 else if f = 3 ∧ i = 0 then 999 else if f = 2 ∧ i = 0 then -1 else if f = 1 ∧ i = 0 then 0 else if f = 0 ∧ i = 0 then 1 else cc_Z f i := by
  unfold cc_I lk_mk
  simp only [lk_st_eq]
theorem lk_SX_I : lk_SX 24 cc_I (mm_I 24) := by
  have cZ : ∀ f i, 0 < f → f ≠ 4 → f ≠ 6 → f ≠ 11 → cc_Z f i = 0 := fun f i h0 h4 h6 h11 => by
    unfold cc_Z; rw [if_neg (by omega), if_neg (by omega), if_neg h11]
  have cg : ∀ f i, 6 < f → f ≠ 11 → cc_I f i = 0 := fun f i h h11 => by
    rw [lk_cI_at]; repeat rw [if_neg (by omega)]
    exact cZ f i (by omega) (by omega) (by omega) h11
  have mg : ∀ f i, 6 < f → mm_I 24 f i = 0 := fun f i h => by
    rw [lk_I_at]; repeat rw [if_neg (by omega)]
  refine ⟨fun x hx => ?_, fun x hx => ?_, fun x hx hxe k a h1 h2 => ?_, fun x hx hxe k j hj => ?_, fun x hx k => ?_, fun a j ha => ?_, ?_, ?_, fun t ht => ?_, fun t ht b o => ?_, ?_⟩
  · rw [lk_cI_at, lk_I_at]
    by_cases c : x = 0
    · subst c; decide
    · unfold cc_Z
      repeat rw [if_neg (by omega)]
      rw [if_pos rfl]
      repeat rw [if_neg (by omega)]
  · rw [lk_cI_at, lk_I_at, if_pos rfl, if_pos hx]
    by_cases c : x = 0
    · subst c; decide
    · unfold cc_Z
      repeat rw [if_neg (by omega)]
      rw [if_pos (by omega)]
  · have := lk_I_k k
    subst this
    rcases lk_f15 h1 h2 with z | z | z | z | z <;> subst z <;> rw [lk_cI_at, lk_I_at] <;> decide
  · have := lk_I_k k
    subst this
    rw [lk_I_at] at hj
    have hj' : (j : Int) < 0 := by
      have : ((if 5 = 6 then (if 0 < 24 then -1 else 0) else if 5 = 4 ∧ 0 = 0 then -1 else if 5 = 3 ∧ 0 = 0 then 999 else if 5 = 2 ∧ 0 = 0 then -1 else if 5 = 0 ∧ 0 = 0 then 1 else 0 : Int32)).toInt = 0 := by decide
      omega
    omega
  · exfalso
    rw [lk_I_at] at k
    by_cases c : x = 0
    · subst c; exact absurd k (by decide)
    · rw [if_neg (by decide), if_neg (by omega), if_neg (by omega), if_neg (by omega), if_neg (by omega)] at k
      exact absurd k (by decide)
  · rw [cg a j (by omega) (by omega), mg a j (by omega)]
  · rw [cg 24 0 (by decide) (by decide), mg 24 0 (by decide)]
  · rw [cg 24 1 (by decide) (by decide), mg 24 1 (by decide)]
  · have e1 : cc_I 11 t = 1 := by
      rw [lk_cI_at]; repeat rw [if_neg (by omega)]
      unfold cc_Z
      rw [if_neg (by decide), if_neg (by decide), if_pos rfl]
    rw [e1, mg 11 t (by decide)]
    exact ⟨⟨fun z => absurd z (by decide), fun z => absurd rfl z⟩, Or.inr rfl⟩
  · rw [mg 11 t (by decide)] at b
    exact absurd b (by decide)
  · rw [lk_cI_at]; decide
/-- reading -/
theorem lk_SX.isn (s : lk_SX 24 C M) {x : Int32} : lk_isn C x ↔ lk_isn M x := by
  constructor
  · rintro ⟨j, hj, ex, k⟩; exact ⟨j, hj, ex, (s.k j hj).symm.trans k⟩
  · rintro ⟨j, hj, ex, k⟩; exact ⟨j, hj, ex, (s.k j hj).trans k⟩
theorem lk_SX.look (s : lk_SX 24 C M) (h : lk_Inv M) {t w : Nat} (ht : t < 4) (hw : w ≤ 8) : cc_look C t w = lk_look M t w := by
  have b := s.bu t ht
  have bm := (h.2.2.2.2.2.2.1 t ht).1
  unfold cc_look lk_look
  rw [s.pl 22 _ (by decide), s.pl 22 _ (by decide), s.pl 22 _ (by decide), s.pl 22 _ (by decide), s.pl 13 t (by decide), s.pl 14 t (by decide), s.pl 15 t (by decide), s.pl 16 t (by decide)]
  by_cases c4 : 4 < w
  · rw [if_pos c4]
    have : w = 5 ∨ w = 6 ∨ w = 7 ∨ w = 8 := by omega
    rcases this with z | z | z | z <;> subst z
    · simp
    · simp
    · simp
    · simp
  · rw [if_neg c4]
    by_cases c0 : w = 0
    · rw [if_pos c0, if_pos c0]
      rcases bm with z | z
      · rw [if_pos z, if_neg (fun y => (b.1.mp y) z)]
      · rw [if_neg (show ¬ M 11 t = 0 by rw [z]; decide), if_pos (b.1.mpr (by rw [z]; decide))]
    · rw [if_neg c0, if_neg c0, if_neg (by omega), if_neg (by omega), if_neg (by omega), if_neg (by omega)]
      rcases bm with z | z
      · rw [if_pos z, if_neg (fun y => (b.1.mp y) z)]
      · rw [if_neg (show ¬ M 11 t = 0 by rw [z]; decide), if_pos (b.1.mpr (by rw [z]; decide))]
theorem lk_SX.page (s : lk_SX 24 C M) {p w : Nat} (hp : p < 24) (hw : w ≤ 6) : lk_page C p w = lk_page M p w := by
  unfold lk_page
  rw [s.k p hp]
  by_cases c0 : w = 0
  · rw [if_pos c0, if_pos c0]
  · rw [if_neg c0, if_neg c0]
    by_cases k : M 0 p = 1
    · have N := s.nd p hp (by omega) k
      rw [if_pos k, if_pos k, N 1 (by decide) (by decide), N 2 (by decide) (by decide), N 3 (by decide) (by decide), N 4 (by decide) (by decide), N 5 (by decide) (by decide), s.ow p hp]
    · rw [if_neg k, if_neg k]
theorem lk_sm_cong {f g : Nat → Int32} : ∀ n, (∀ i, i < n → f i = g i) → lk_sm f n = lk_sm g n := by
  intro n
  induction n with
  | zero => intro _; rfl
  | succ n ih =>
    intro h
    unfold lk_sm
    rw [ih (fun i hi => h i (by omega)), h n (by omega)]
theorem lk_SX.un (s : lk_SX 24 C M) : ∀ (f p : Nat), lk_tw M f p → lk_un C f p = lk_un M f p ∧ lk_tw C f p := by
  intro f
  induction f with
  | zero =>
    intro p h
    obtain ⟨hp, k, l, n, hn, h5⟩ := h
    have N := s.nd p hp (by omega) k
    refine ⟨N 5 (by decide) (by decide), hp, (s.k p hp).trans k, (N 1 (by decide) (by decide)).trans l, n, hn, (N 5 (by decide) (by decide)).trans h5⟩
  | succ f ih =>
    intro p h
    obtain ⟨hp, k, l, n, hn, h5, hc⟩ := h
    have N := s.nd p hp (by omega) k
    have e8 : ∀ i, i < n → C 8 (5 * p + i) = M 8 (5 * p + i) := fun i hi => s.e8 hp (by omega) k h5 (by omega) hi
    refine ⟨?_, hp, (s.k p hp).trans k, (N 1 (by decide) (by decide)).trans l, n, hn, (N 5 (by decide) (by decide)).trans h5, fun i hi => ?_⟩
    · unfold lk_un
      rw [N 5 (by decide) (by decide), h5, nI_clamp (by omega)]
      refine lk_sm_cong n (fun i hi => ?_)
      obtain ⟨d, ed, hd⟩ := hc i hi
      rw [e8 i hi, ed]
      have dl : d < 24 := by cases f with
        | zero => exact hd.1
        | succ f => exact hd.1
      rw [nI_clamp (by omega)]
      exact (ih d hd).1
    · obtain ⟨d, ed, hd⟩ := hc i hi
      exact ⟨d, (e8 i hi).trans ed, (ih d hd).2⟩
end Reads
