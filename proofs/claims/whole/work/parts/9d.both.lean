/-! both sides step alike: a step -/
section Step
variable {C M : lk_M}
theorem lk_B5_ins (b5 : lk_B5 M) {p j n : Nat} {a b : Int32} (hn : n ≤ 4) : lk_B5 (lk_ins M p j n a b) := fun x hx k => by
  rw [lk_ins_f (by decide) (by decide) (by decide)] at k
  rw [lk_ins_5]
  by_cases c : x = p
  · rw [if_pos c, nI_toInt (by omega)]; omega
  · rw [if_neg c]; exact b5 x hx k
theorem lk_B5_st8 (b5 : lk_B5 M) {i : Nat} {v : Int32} : lk_B5 (lk_st M 8 i v) := fun x hx k => by
  rw [lk_st_f (by decide)] at k ⊢
  exact b5 x hx k
/-- two results, the same number and memories alike -/
def lk_two_r (y z : Int32 × lk_M) : Prop := y.1 = z.1 ∧ lk_SX 24 y.2 z.2
theorem lk_SX.puts (s : lk_SX 24 C M) {t p n v rt : Nat} (hh : lk_hold M t p n v rt) : lk_two_r (cc_puts C t p n v) (mm_puts M t p n v) := by
  obtain ⟨ht, hp, hb, hpl, h13, kp, lo, hi, h5, hn, hv, hv2, hl, r1, r2⟩ := hh
  have p24 : p ≠ 24 := by omega
  have b5 := lk_B5_of r2
  have hat := lk_at_le M p n (M 15 t)
  have eh := s.hk (k := M 15 t) hp p24 kp h5 (by omega)
  unfold cc_puts mm_puts
  rw [s.pl 15 t (by decide), s.pl 17 t (by decide), s.at hp p24 kp h5 (by omega), s.free]
  by_cases hk : lk_hk M p n (M 15 t)
  · rw [if_pos hk, if_pos (eh.mpr hk)]
    exact ⟨rfl, (s.st8 rfl).fin (s.e8 hp p24 kp h5 (by omega) hk.1)⟩
  · rw [if_neg hk, if_neg (fun z => hk (eh.mp z))]
    have si := s.ins b5 (a := M 15 t) (b := M 17 t) hp p24 kp h5 hn hat
    by_cases hn4 : n < 4
    · rw [if_pos hn4, if_pos hn4]
      exact ⟨rfl, si.fin rfl⟩
    · rw [if_neg hn4, if_neg hn4]
      by_cases hfr : lk_free M < 24
      · rw [if_pos hfr, if_pos hfr]
        have n4 : n = 4 := by omega
        exact ⟨rfl, si.split (lk_B5_ins b5 hn) ht hp hfr ((lk_ins_f (by decide) (by decide) (by decide)).trans kp) ((lk_ins_f (by decide) (by decide) (by decide)).trans (lk_free_0 hfr)) (by rw [lk_ins_5, if_pos rfl, n4])⟩
      · rw [if_neg hfr, if_neg hfr]
        exact ⟨rfl, s.fin rfl⟩
theorem lk_SX.posts (s : lk_SX 24 C M) {t p n v rt : Nat} (hh : lk_hold M t p n v rt) (ho : M 12 t = 4) (hat : lk_at M p n (M 15 t) < n) : lk_two_r (cc_posts C t p n v) (mm_posts M t p n v) := by
  obtain ⟨ht, hp, hb, hpl, h13, kp, lo, hi, h5, hn, hv, hv2, hl, r1, r2⟩ := hh
  have p24 : p ≠ 24 := by omega
  have b5 := lk_B5_of r2
  unfold cc_posts mm_posts
  rw [s.pl 15 t (by decide), s.at hp p24 kp h5 (by omega), s.free, s.ab t ht hb (Or.inr ho), s.e8 hp p24 kp h5 (by omega) hat]
  have si := (s.ins b5 (a := M 15 t) (b := M 8 (5 * p + lk_at M p n (M 15 t))) hp p24 kp h5 hn (Nat.le_of_lt hat)).st8 (i := 5 * p + lk_at M p n (M 15 t) + 1) (v := M 18 t) (w := M 18 t) rfl
  by_cases hn4 : n < 4
  · rw [if_pos hn4, if_pos hn4]
    exact ⟨rfl, si.fin rfl⟩
  · rw [if_neg hn4, if_neg hn4]
    by_cases hfr : lk_free M < 24
    · rw [if_pos hfr, if_pos hfr]
      have n4 : n = 4 := by omega
      exact ⟨rfl, si.split (lk_B5_st8 (lk_B5_ins b5 hn)) ht hp hfr ((lk_st_f (by decide)).trans ((lk_ins_f (by decide) (by decide) (by decide)).trans kp)) ((lk_st_f (by decide)).trans ((lk_ins_f (by decide) (by decide) (by decide)).trans (lk_free_0 hfr))) ((lk_st_f (by decide)).trans (by rw [lk_ins_5, if_pos rfl, n4]))⟩
    · rw [if_neg hfr, if_neg hfr]
      exact ⟨rfl, s.fin rfl⟩
theorem lk_SX.removes (s : lk_SX 24 C M) {t p n v rt nq : Nat} (hh : lk_hold M t p n v rt) : lk_two_r (cc_removes C t p n rt nq) (mm_removes M t p n rt nq) := by
  obtain ⟨ht, hp, hb, hpl, h13, kp, lo, hi, h5, hn, hv, hv2, hl, r1, r2⟩ := hh
  have p24 : p ≠ 24 := by omega
  have b5 := lk_B5_of r2
  have eh := s.hk (k := M 15 t) hp p24 kp h5 (by omega)
  unfold cc_removes mm_removes
  rw [s.pl 15 t (by decide), s.at hp p24 kp h5 (by omega)]
  by_cases hk : lk_hk M p n (M 15 t)
  · rw [if_pos hk, if_pos (eh.mpr hk)]
    have sd := s.del b5 (j := lk_at M p n (M 15 t)) hp p24 kp h5 hn
    by_cases c : n - 1 < 2 ∧ p ≠ rt
    · rw [if_pos c, if_pos c]
      exact ⟨rfl, sd.cq.fin (s.e8 hp p24 kp h5 (by omega) hk.1)⟩
    · rw [if_neg c, if_neg c]
      exact ⟨rfl, sd.fin (s.e8 hp p24 kp h5 (by omega) hk.1)⟩
  · rw [if_neg hk, if_neg (fun z => hk (eh.mp z))]
    exact ⟨rfl, s.fin rfl⟩
theorem lk_SX.joins (s : lk_SX 24 C M) {t p n v x a b na nb rt nq : Nat} (h : lk_Inv M) (hh : lk_hold M t p n v rt) (ho : M 12 t = 3) (hx : x < 24) (hj : lk_ch M p n (nI x) < n → 2 ≤ n → M 8 (5 * p + lk_ji (lk_ch M p n (nI x)) n) = nI a ∧ M 8 (5 * p + lk_ji (lk_ch M p n (nI x)) n + 1) = nI b ∧ a < 24 ∧ b < 24 ∧ a ≠ b ∧ a ≠ p ∧ b ≠ p ∧ M 5 a = nI na ∧ M 5 b = nI nb ∧ na ≤ 4 ∧ nb ≤ 4) : lk_two_r (cc_joins C t p n x a b na nb rt nq (lk_ch C p n (nI x)) (lk_ji (lk_ch C p n (nI x)) n)) (mm_joins M t p n x a b na nb rt nq (lk_ch M p n (nI x)) (lk_ji (lk_ch M p n (nI x)) n)) := by
  have w0 : M 16 t ≠ 0 := by
    rcases (lk_TKof h hh.1 hh.2.2.1).2.2.2.2.2.2.2.2.1 ho with ⟨-, z⟩ | ⟨-, -, -, z⟩
    · rw [hh.2.2.2.2.1] at z; exact absurd z (by decide)
    · exact z
  have lp := lk_lvl_pos h hh w0
  obtain ⟨ht, hp, hb, hpl, h13, kp, lo, hi, h5, hn, hv, hv2, hl, r1, r2⟩ := hh
  have p24 : p ≠ 24 := by omega
  have n1 : 1 ≤ n := by
    have := (r2.2.2.2.1 p hp (lk_z1.mpr kp) lp).1
    rw [lk_zi_n h5 (by omega)] at this
    omega
  unfold cc_joins mm_joins
  rw [s.ch hp p24 kp h5 (by omega), s.k x hx]
  by_cases c1 : M 0 x ≠ 1 ∨ ¬ lk_ch M p n (nI x) < n ∨ n = 1
  · rw [if_pos c1, if_pos c1]; exact ⟨rfl, s.fin rfl⟩
  · rw [if_neg c1, if_neg c1]
    have cn : lk_ch M p n (nI x) < n := Decidable.not_not.mp (fun z => c1 (Or.inr (Or.inl z)))
    have cn1 : n ≠ 1 := fun z => c1 (Or.inr (Or.inr z))
    obtain ⟨j1, j2, ja, jb, -, -, -, j5a, j5b, jna, jnb⟩ := hj cn (by omega)
    have jl := lk_ji_lt cn (by omega)
    rw [s.ow a ja, s.ow b jb]
    by_cases c2 : M 6 a ≠ -1 ∨ M 6 b ≠ -1
    · rw [if_pos c2, if_pos c2]; exact ⟨rfl, s⟩
    · rw [if_neg c2, if_neg c2]
      obtain ⟨a', ha', ea', ka, -⟩ := lk_child r2 hp kp hn h5 lp (i := lk_ji (lk_ch M p n (nI x)) n) (by omega)
      obtain ⟨b', hb', eb', kb, -⟩ := lk_child r2 hp kp hn h5 lp (i := lk_ji (lk_ch M p n (nI x)) n + 1) (by omega)
      have za : a' = a := lk_nI_inj (by omega) (by omega) (ea'.symm.trans j1)
      have zb : b' = b := lk_nI_inj (by omega) (by omega) (eb'.symm.trans j2)
      subst za zb
      rw [s.nd a' ja (by omega) ka 3 (by decide) (by decide), s.nd b' jb (by omega) kb 3 (by decide) (by decide), s.e7 hp p24 kp h5 (by omega) (i := lk_ji (lk_ch M p n (nI x)) n) (by omega)]
      have e7' : C 7 (5 * p + lk_ji (lk_ch M p n (nI x)) n + 1) = M 7 (5 * p + lk_ji (lk_ch M p n (nI x)) n + 1) := s.e7 hp p24 kp h5 (by omega) (i := lk_ji (lk_ch M p n (nI x)) n + 1) (by omega)
      rw [e7']
      by_cases c3 : M 3 a' ≠ M 7 (5 * p + lk_ji (lk_ch M p n (nI x)) n) ∨ M 3 b' ≠ M 7 (5 * p + lk_ji (lk_ch M p n (nI x)) n + 1)
      · rw [if_pos c3, if_pos c3]; exact ⟨rfl, s.fin rfl⟩
      · rw [if_neg c3, if_neg c3]
        have two : lk_two M p n (lk_ji (lk_ch M p n (nI x)) n) a' b' na nb rt := ⟨hp, kp, lp, h5, hn, jl, j1, j2, ja, jb, j5a, j5b, jna, jnb, Decidable.not_not.mp (fun z => c3 (Or.inl z)), Decidable.not_not.mp (fun z => c3 (Or.inr z)), r2⟩
        by_cases c4 : 4 < na + nb
        · rw [if_pos c4, if_pos c4]
          exact ⟨rfl, (s.bl two c4).fin rfl⟩
        · rw [if_neg c4, if_neg c4]
          exact ⟨rfl, (s.merge two (by omega)).fin rfl⟩
theorem lk_SX.rises (s : lk_SX 24 C M) {t rt : Nat} (r2 : lk_TR M rt) : lk_two_r (cc_rises C t rt) (mm_rises M t rt) := by
  obtain ⟨hr, kr, -⟩ := lk_root r2
  unfold cc_rises mm_rises
  rw [s.pl 12 t (by decide), s.pl 16 t (by decide), s.free, s.nd rt hr (by omega) kr 1 (by decide) (by decide)]
  by_cases c1 : M 12 t = 3
  · rw [if_pos c1, if_pos c1]; exact ⟨rfl, s.fin rfl⟩
  · rw [if_neg c1, if_neg c1]
    by_cases c2 : M 1 rt < M 16 t
    · rw [if_pos c2, if_pos c2]
      by_cases c3 : lk_free M < 24
      · rw [if_pos c3, if_pos c3]
        refine ⟨rfl, ?_⟩
        have z := s.nr (lk_B5_of r2) (t := t) hr kr c3 (lk_free_0 c3)
        unfold lk_nr at z
        rw [s.nd rt hr (by omega) kr 1 (by decide) (by decide)] at z
        exact z
      · rw [if_neg c3, if_neg c3]; exact ⟨rfl, s.fin rfl⟩
    · rw [if_neg c2, if_neg c2]; exact ⟨rfl, s.rst⟩
theorem lk_SX.searches (s : lk_SX 24 C M) (h : lk_Inv M) {t p n v rt : Nat} (ht : t < 4) (hp : p < 24) (hb : M 11 t = 1) (h0 : M 13 t = 0) (r2 : lk_TR M rt) (c1 : ¬ (M 12 t = 3 ∧ M 18 t = -1)) (hh : ¬ lk_lost M t p → M 5 p = nI n ∧ n ≤ 4 ∧ M 1 p = nI v ∧ v ≤ 23 ∧ M 0 p = 1) : lk_two_r (cc_searches C t p n v rt) (mm_searches M t p n v rt) := by
  have p24 : p ≠ 24 := by omega
  unfold cc_searches mm_searches
  rw [if_neg c1]
  by_cases c2 : lk_lost M t p
  · rw [if_pos c2, if_pos ((s.lost hp).mpr c2)]; exact ⟨rfl, s.rst⟩
  · rw [if_neg c2, if_neg (fun z => c2 ((s.lost hp).mp z))]
    obtain ⟨h5, hn, hv, hv2, kp⟩ := hh c2
    have eh := s.hk (k := M 15 t) hp p24 kp h5 (by omega)
    rw [s.pl 15 t (by decide), s.pl 16 t (by decide), s.pl 12 t (by decide), s.nd p hp p24 kp 3 (by decide) (by decide), s.nd p hp p24 kp 1 (by decide) (by decide), s.at hp p24 kp h5 (by omega)]
    by_cases c3 : M 3 p < M 15 t
    · rw [if_pos c3, if_pos c3]; exact ⟨rfl, s.rgt hp kp⟩
    · rw [if_neg c3, if_neg c3]
      by_cases c4 : M 16 t < M 1 p
      · rw [if_pos c4, if_pos c4]
        have hat := (lk_Inv_down h ht hp hb h0 kp hn h5 hv2 hv c3 c4).2
        rw [if_pos hat]
        exact ⟨rfl, (s.st rfl (by decide)).st (s.e8 hp p24 kp h5 (by omega) hat) (by decide)⟩
      · rw [if_neg c4, if_neg c4]
        by_cases c5 : M 1 p < M 16 t
        · rw [if_pos c5, if_pos c5]; exact s.rises r2
        · rw [if_neg c5, if_neg c5]
          by_cases c6 : M 12 t = 0
          · rw [if_pos c6, if_pos c6]
            refine ⟨rfl, s.fin ?_⟩
            by_cases hk : lk_hk M p n (M 15 t)
            · rw [if_pos hk, if_pos (eh.mpr hk)]; exact s.e8 hp p24 kp h5 (by omega) hk.1
            · rw [if_neg hk, if_neg (fun z => hk (eh.mp z))]
          · rw [if_neg c6, if_neg c6]; exact ⟨rfl, s.st rfl (by decide)⟩
theorem lk_two_rel {y z : Int32 × lk_M} {p : Nat} (h : lk_two_r y z) : lk_two_r (if y.1 = 1 then y else (y.1, lk_st y.2 6 p (-1))) (if z.1 = 1 then z else (z.1, lk_st z.2 6 p (-1))) := by
  obtain ⟨h1, h2⟩ := h
  rw [h1]
  by_cases c : z.1 = 1
  · rw [if_pos c, if_pos c]; exact ⟨h1, h2⟩
  · rw [if_neg c, if_neg c]; exact ⟨rfl, h2.st6⟩
theorem lk_hold_of (h : lk_Inv M) {t p n v rt nq x a b na nb : Nat} (hb : M 11 t = 1) (h13 : M 13 t = 2) (hh : lk_hpre M t p n v rt nq x a b na nb) (c1 : ¬ lk_lost M t p) (c2 : ¬ M 3 p < M 15 t) : lk_hold M t p n v rt := by
  obtain ⟨ht, hp, hpl, hrt, r1, hnq, hq, hok, hpo, hjo⟩ := hh
  obtain ⟨h5, hn, hv, hv2, kp⟩ := hok c1
  obtain ⟨x', hx', px, ax, lx⟩ := (lk_TKof h ht hb).2.2.2.2.1
  have exp : x' = p := lk_nI_inj (by omega) (by omega) (px.symm.trans hpl)
  subst exp
  refine ⟨ht, hp, hb, hpl, h13, kp, ?_, ?_, h5, hn, hv, hv2, lx (by rw [h13]; decide) kp, r1, lk_rt_of h hrt r1⟩
  · have : ¬ M 15 t ≤ M 2 x' := fun z => c1 (Or.inr z)
    rw [Int32.le_iff_toInt_le] at this; omega
  · rw [Int32.lt_iff_toInt_lt] at c2; omega
/-- the operation of a task that is in phase 2 -/
theorem lk_op2 (h : lk_Inv M) {t : Nat} (ht : t < 4) (hb : M 11 t = 1) (h13 : M 13 t = 2) : M 12 t = 1 ∨ M 12 t = 2 ∨ M 12 t = 3 ∨ M 12 t = 4 := by
  obtain ⟨o, ho, eo⟩ := (lk_TKof h ht hb).1
  have o0 : o ≠ 0 := fun z => by
    rw [z] at eo
    have := (lk_TKof h ht hb).2.2.2.2.2.2.2.1 eo
    rw [h13] at this; exact absurd this (by decide)
  have : o = 1 ∨ o = 2 ∨ o = 3 ∨ o = 4 := by omega
  rcases this with z | z | z | z <;> rw [eo, z]
  · exact Or.inl rfl
  · exact Or.inr (Or.inl rfl)
  · exact Or.inr (Or.inr (Or.inl rfl))
  · exact Or.inr (Or.inr (Or.inr rfl))
theorem lk_SX.holds (s : lk_SX 24 C M) (h : lk_Inv M) {t p n v rt nq x a b na nb : Nat} (hb : M 11 t = 1) (h13 : M 13 t = 2) (hh : lk_hpre M t p n v rt nq x a b na nb) : lk_two_r (cc_holds C t p n v rt nq x a b na nb) (mm_holds M t p n v rt nq x a b na nb) := by
  have hh' := hh
  obtain ⟨ht, hp, hpl, hrt, r1, hnq, hq, hok, hpo, hjo⟩ := hh
  have p24 : p ≠ 24 := by omega
  unfold cc_holds mm_holds
  refine lk_two_rel ?_
  unfold cc_hold0 mm_hold0
  by_cases c1 : lk_lost M t p
  · rw [if_pos c1, if_pos ((s.lost hp).mpr c1)]; exact ⟨rfl, s.rst⟩
  · rw [if_neg c1, if_neg (fun z => c1 ((s.lost hp).mp z))]
    obtain ⟨h5, hn, hv, hv2, kp⟩ := hok c1
    rw [s.pl 15 t (by decide), s.pl 12 t (by decide), s.nd p hp p24 kp 3 (by decide) (by decide)]
    by_cases c2 : M 3 p < M 15 t
    · rw [if_pos c2, if_pos c2]; exact ⟨rfl, (s.rgt hp kp).st rfl (by decide)⟩
    · rw [if_neg c2, if_neg c2]
      have hold := lk_hold_of h hb h13 hh' c1 c2
      rcases lk_op2 h ht hb h13 with o | o | o | o
      · rw [if_pos o, if_pos o]; exact s.puts hold
      · have n1 : ¬ M 12 t = 1 := by rw [o]; decide
        have n4 : ¬ M 12 t = 4 := by rw [o]; decide
        rw [if_neg n1, if_neg n1, if_pos o, if_neg n4, if_pos o]; exact s.removes hold
      · have n1 : ¬ M 12 t = 1 := by rw [o]; decide
        have n2 : ¬ M 12 t = 2 := by rw [o]; decide
        have n4 : ¬ M 12 t = 4 := by rw [o]; decide
        rw [if_neg n1, if_neg n1, if_neg n2, if_pos o, if_neg n4, if_neg n2]
        obtain ⟨hx, e18, hn1, hj⟩ := hjo c1 c2 n1 n4 n2
        exact s.joins h hold o hx hj
      · have n1 : ¬ M 12 t = 1 := by rw [o]; decide
        have n2 : ¬ M 12 t = 2 := by rw [o]; decide
        have n3 : ¬ M 12 t = 3 := by rw [o]; decide
        rw [if_neg n1, if_neg n1, if_neg n2, if_neg n3, if_pos o]
        exact s.posts hold o (hpo c1 c2 o)
theorem lk_SX.step0 (s : lk_SX 24 C M) (h : lk_Inv M) {t p n v rt nq x a b na nb : Nat} (hb : M 11 t = 1) (hh : lk_spre M t p n v rt nq x a b na nb) : lk_two_r (cc_step0 C t p n v rt nq x a b na nb) (mm_step0 M t p n v rt nq x a b na nb) := by
  obtain ⟨ht, hp, hpl, hrt, r1, hnq, hq, hok, hpo⟩ := hh
  have r2 := lk_rt_of h hrt r1
  have hk := lk_TKof h ht hb
  have c18 : M 12 t = 3 → C 18 t = M 18 t := fun z => s.ab t ht hb (Or.inl z)
  unfold cc_step0 mm_step0
  rw [s.pl 12 t (by decide), s.pl 13 t (by decide)]
  by_cases c1 : M 12 t = 3 ∧ M 18 t = -1
  · rw [if_pos ⟨c1.1, (c18 c1.1).trans c1.2⟩]
    have h0 : M 13 t = 0 := by
      rcases hk.2.2.2.2.2.2.2.2.1 c1.1 with ⟨-, z⟩ | ⟨x', hx', z, -⟩
      · exact z
      · rw [c1.2] at z; exact absurd z.symm (lk_nI_m1 (by omega))
    rw [if_pos h0]
    unfold mm_searches
    rw [if_pos c1]
    exact ⟨rfl, s.fin rfl⟩
  · rw [if_neg (fun z => c1 ⟨z.1, (c18 z.1).symm.trans z.2⟩)]
    by_cases c2 : M 13 t = 0
    · rw [if_pos c2, if_pos c2]; exact s.searches h ht hp hb c2 r2 c1 hok
    · rw [if_neg c2, if_neg c2]
      by_cases c3 : M 13 t = 1
      · rw [if_pos c3, if_pos c3]
        have hno := (lk_Inv_lock h ht hb hpl hp c3).2
        unfold cc_lock mm_locks
        rw [s.ow p hp]
        by_cases c4 : M 6 p = -1
        · rw [if_pos c4, if_pos (Or.inl c4)]; exact ⟨rfl, s.st6.st rfl (by decide)⟩
        · rw [if_neg c4, if_neg (fun z => by rcases z with z | z; exact c4 z; exact hno z)]; exact ⟨rfl, s⟩
      · rw [if_neg c3, if_neg c3]
        refine s.holds h hb ?_ (hpo c2 c3)
        obtain ⟨f, hf, ef⟩ := hk.2.1
        have f0 : f ≠ 0 := fun z => c2 (by rw [ef, z]; rfl)
        have f1 : f ≠ 1 := fun z => c3 (by rw [ef, z]; rfl)
        have : f = 2 := by omega
        rw [ef, this]; rfl
/-- what the class's step wants -/
theorem lk_SX.spre (s : lk_SX 24 C M) (h : lk_Inv M) {t p n v rt nq x a b na nb : Nat} (hb : M 11 t = 1) (hh : lk_spre M t p n v rt nq x a b na nb) : cc_spre C t p n v rt nq x a b na nb ∧ (C 13 t = 0 ∨ C 13 t = 1 ∨ C 13 t = 2) ∧ C 11 t = 0 := by
  obtain ⟨ht, hp, hpl, hrt, r1, hnq, hq, hok, hpo⟩ := hh
  have p24 : p ≠ 24 := by omega
  have hk := lk_TKof h ht hb
  have hok' : ¬ lk_lost C t p → C 5 p = nI n ∧ n ≤ 4 ∧ C 1 p = nI v ∧ v ≤ 23 ∧ C 0 p = 1 := fun c => by
    obtain ⟨h5, hn, hv, hv2, kp⟩ := hok (fun z => c ((s.lost hp).mpr z))
    exact ⟨(s.nd p hp p24 kp 5 (by decide) (by decide)).trans h5, hn, (s.nd p hp p24 kp 1 (by decide) (by decide)).trans hv, hv2, (s.k p hp).trans kp⟩
  refine ⟨⟨ht, hp, (s.pl 14 t (by decide)).trans hpl, hrt, s.rt.trans r1, hnq, s.qn.trans hq, hok', fun h13 => ?_⟩, ?_, ?_⟩
  · rw [s.pl 13 t (by decide)] at h13
    have hh := hpo (by rw [h13]; decide) (by rw [h13]; decide)
    obtain ⟨-, -, -, -, -, -, -, -, hpo2, hjo⟩ := hh
    refine ⟨ht, hp, (s.pl 14 t (by decide)).trans hpl, hrt, s.rt.trans r1, hnq, s.qn.trans hq, hok', fun c1 c2 o1 o2 o3 => ?_, fun c1 c2 o3 => ?_⟩
    · have c1 : ¬ lk_lost M t p := fun z => c1 ((s.lost hp).mpr z)
      obtain ⟨h5, hn, hv, hv2, kp⟩ := hok c1
      rw [s.nd p hp p24 kp 3 (by decide) (by decide), s.pl 15 t (by decide)] at c2
      rw [s.pl 12 t (by decide)] at o1 o2 o3
      rw [s.at hp p24 kp h5 (by omega), s.pl 15 t (by decide)]
      refine hpo2 c1 c2 ?_
      rcases lk_op2 h ht hb h13 with o | o | o | o
      · exact absurd o o1
      · exact absurd o o2
      · exact absurd o o3
      · exact o
    · have c1 : ¬ lk_lost M t p := fun z => c1 ((s.lost hp).mpr z)
      obtain ⟨h5, hn, hv, hv2, kp⟩ := hok c1
      rw [s.nd p hp p24 kp 3 (by decide) (by decide), s.pl 15 t (by decide)] at c2
      rw [s.pl 12 t (by decide)] at o3
      obtain ⟨hx, e18, hn1, hj⟩ := hjo c1 c2 (by rw [o3]; decide) (by rw [o3]; decide) (by rw [o3]; decide)
      refine ⟨hx, (s.ab t ht hb (Or.inl o3)).trans e18, hn1, fun z1 z2 => ?_⟩
      rw [s.ch hp p24 kp h5 (by omega)] at z1 ⊢
      obtain ⟨j1, j2, ja, jb, ne, nap, nbp, j5a, j5b, jna, jnb⟩ := hj z1 z2
      have jl := lk_ji_lt z1 z2
      have w0 : M 16 t ≠ 0 := by
        rcases hk.2.2.2.2.2.2.2.2.1 o3 with ⟨-, z⟩ | ⟨-, -, -, z⟩
        · rw [h13] at z; exact absurd z (by decide)
        · exact z
      have hold := lk_hold_of h hb h13 (hpo (by rw [h13]; decide) (by rw [h13]; decide)) c1 c2
      have lp := lk_lvl_pos h hold w0
      have r2 := lk_rt_of h hrt r1
      obtain ⟨a', ha', ea', ka, -⟩ := lk_child r2 hp kp hn h5 lp (i := lk_ji (lk_ch M p n (nI x)) n) (by omega)
      obtain ⟨b', hb', eb', kb, -⟩ := lk_child r2 hp kp hn h5 lp (i := lk_ji (lk_ch M p n (nI x)) n + 1) (by omega)
      have za : a' = a := lk_nI_inj (by omega) (by omega) (ea'.symm.trans j1)
      have zb : b' = b := lk_nI_inj (by omega) (by omega) (eb'.symm.trans j2)
      subst za zb
      exact ⟨(s.e8 hp p24 kp h5 (by omega) (by omega)).trans j1, (s.e8 hp p24 kp h5 (by omega) (i := lk_ji (lk_ch M p n (nI x)) n + 1) (by omega)).trans j2, ja, jb, ne, nap, nbp, (s.nd a' ja (by omega) ka 5 (by decide) (by decide)).trans j5a, (s.nd b' jb (by omega) kb 5 (by decide) (by decide)).trans j5b, jna, jnb⟩
  · rw [s.pl 13 t (by decide)]
    obtain ⟨f, hf, ef⟩ := hk.2.1
    have : f = 0 ∨ f = 1 ∨ f = 2 := by omega
    rcases this with z | z | z <;> rw [ef, z]
    · exact Or.inl rfl
    · exact Or.inr (Or.inl rfl)
    · exact Or.inr (Or.inr rfl)
  · exact (s.bu t ht).1.mpr (by rw [hb]; decide)
theorem lk_SX.cnt {y z : Int32 × lk_M} (h : lk_two_r y z) {t : Nat} : lk_SX 24 (mm_cnt y t) (mm_cnt z t) := by
  obtain ⟨h1, h2⟩ := h
  unfold mm_cnt
  rw [h1, h2.pl 22 (4 * t) (by decide), h2.pl 22 (4 * t + 1) (by decide)]
  by_cases c : z.1 = 1
  · rw [if_pos c, if_pos c]; exact (h2.st rfl (by decide)).st rfl (by decide)
  · rw [if_neg c, if_neg c]; exact h2.st rfl (by decide)
end Step
