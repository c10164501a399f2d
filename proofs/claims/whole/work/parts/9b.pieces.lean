/-! both sides step alike: the pieces -/
def lk_B5 (M : lk_M) : Prop := ∀ x, x < 24 → M 0 x = 1 → (M 5 x).toInt ≤ 5
theorem lk_B5_of {M : lk_M} {rt : Nat} (h : lk_TR M rt) : lk_B5 M := fun x hx k => (h.1 x hx (lk_z1.mpr k)).2.2.2.2.2.2.1
theorem lk_f15 {f : Nat} (h1 : 1 ≤ f) (h2 : f ≤ 5) : f = 1 ∨ f = 2 ∨ f = 3 ∨ f = 4 ∨ f = 5 := by omega
section Pieces
variable {e : Nat} {C M : lk_M}
theorem lk_cfin_at (C : lk_M) (t : Nat) (a : Int32) (f i : Nat) : cc_fin C t a f i = if f = 0 then (if i < 24 ∧ C 0 i = 2 ∧ C 9 i &&& lk_off t = 0 then 0 else C 0 i) else if f = 9 then (if i < 24 ∧ C 0 i = 2 then C 9 i &&& lk_off t else C 9 i) else if f = 21 ∧ i = t then a else if f = 20 ∧ i = t then 1 else if f = 11 ∧ i = t then 1 else C f i := by
  unfold cc_fin cc_finL
  simp only [lk_st_eq, lk_up_eq]
  by_cases h0 : f = 0
  · subst h0; simp
  · rw [if_neg h0, if_neg h0]
    by_cases h9 : f = 9
    · subst h9; simp
    · rw [if_neg h9, if_neg h9]
theorem lk_cfin_o {t : Nat} {a : Int32} {f i : Nat} (h0 : f ≠ 0) (h9 : f ≠ 9) : cc_fin C t a f i = if f = 21 ∧ i = t then a else if f = 20 ∧ i = t then 1 else if f = 11 ∧ i = t then 1 else C f i := by
  rw [lk_cfin_at, if_neg h0, if_neg h9]
theorem lk_fin_o {t : Nat} {a : Int32} {f i : Nat} (h0 : f ≠ 0) (h9 : f ≠ 9) : mm_fin M t a f i = if f = 11 ∧ i = t then 0 else if f = 20 ∧ i = t then 1 else if f = 21 ∧ i = t then a else M f i := by
  rw [lk_fin_at, if_neg h0, if_neg h9]
theorem lk_SX.fin (s : lk_SX e C M) {t : Nat} {a b : Int32} (hab : a = b) : lk_SX e (cc_fin C t a) (mm_fin M t b) := by
  subst hab
  have gC : ∀ f i, f ≠ 0 → f ≠ 9 → f ≠ 11 → f ≠ 20 → f ≠ 21 → cc_fin C t a f i = C f i := fun f i h0 h9 h11 h20 h21 => by
    rw [lk_cfin_at, if_neg h0, if_neg h9, if_neg (fun z => h21 z.1), if_neg (fun z => h20 z.1), if_neg (fun z => h11 z.1)]
  have gM : ∀ f i, f ≠ 0 → f ≠ 9 → f ≠ 11 → f ≠ 20 → f ≠ 21 → mm_fin M t a f i = M f i := fun f i h0 h9 h11 h20 h21 => by rw [lk_fin_f h0 h9 h11 h20 h21]
  refine ⟨fun x hx => ?_, fun x hx => ?_, fun x hx hxe k f h1 h2 => ?_, fun x hx hxe k j hj => ?_, fun x hx k => ?_, fun f j hf => ?_, ?_, ?_, fun u hu => ?_, fun u hu b o => ?_, ?_⟩
  · rw [lk_cfin_at, lk_fin_at, if_pos rfl, if_pos rfl, s.k x hx]
    by_cases k : M 0 x = 2
    · rw [s.aw x hx k]
    · rw [if_neg (fun z => k z.2.1), if_neg (fun z => k z.2.1)]
  · rw [gC 6 x (by decide) (by decide) (by decide) (by decide) (by decide), gM 6 x (by decide) (by decide) (by decide) (by decide) (by decide)]; exact s.ow x hx
  · rw [gC f x (by omega) (by omega) (by omega) (by omega) (by omega), gM f x (by omega) (by omega) (by omega) (by omega) (by omega)]
    exact s.nd x hx hxe (lk_fin_k.mp k) f h1 h2
  · rw [gM 5 x (by decide) (by decide) (by decide) (by decide) (by decide)] at hj
    rw [gC 7 _ (by decide) (by decide) (by decide) (by decide) (by decide), gM 7 _ (by decide) (by decide) (by decide) (by decide) (by decide), gC 8 _ (by decide) (by decide) (by decide) (by decide) (by decide), gM 8 _ (by decide) (by decide) (by decide) (by decide) (by decide)]
    exact s.en x hx hxe (lk_fin_k.mp k) j hj
  · have k2 := lk_fin_2 k
    rw [lk_fin_9 hx, lk_cfin_at, if_neg (by decide), if_pos rfl, if_pos ⟨hx, by rw [s.k x hx]; exact k2⟩, s.aw x hx k2]
  · rw [lk_cfin_o (by omega) (by omega), lk_fin_o (by omega) (by omega)]
    rw [if_neg (show ¬ (f = 11 ∧ j = t) by omega), if_neg (show ¬ (f = 11 ∧ j = t) by omega)]
    by_cases c21 : f = 21 ∧ j = t
    · rw [if_pos c21, if_pos c21, if_neg (show ¬ (f = 20 ∧ j = t) by omega)]
    · rw [if_neg c21, if_neg c21]
      by_cases c20 : f = 20 ∧ j = t
      · rw [if_pos c20, if_pos c20]
      · rw [if_neg c20, if_neg c20]
        exact s.pl f j hf
  · rw [gC 24 0 (by decide) (by decide) (by decide) (by decide) (by decide), gM 24 0 (by decide) (by decide) (by decide) (by decide) (by decide)]; exact s.rt
  · rw [gC 24 1 (by decide) (by decide) (by decide) (by decide) (by decide), gM 24 1 (by decide) (by decide) (by decide) (by decide) (by decide)]; exact s.qn
  · rw [lk_cfin_o (by decide) (by decide), lk_fin_o (by decide) (by decide)]
    rw [if_neg (show ¬ (11 = 21 ∧ u = t) by omega), if_neg (show ¬ (11 = 21 ∧ u = t) by omega), if_neg (show ¬ (11 = 20 ∧ u = t) by omega), if_neg (show ¬ (11 = 20 ∧ u = t) by omega)]
    by_cases c : u = t
    · rw [if_pos ⟨rfl, c⟩, if_pos ⟨rfl, c⟩]
      exact ⟨⟨fun z => absurd z (by decide), fun z => absurd rfl z⟩, Or.inr rfl⟩
    · rw [if_neg (fun z => c z.2), if_neg (fun z => c z.2)]
      exact s.bu u hu
  · have b' : M 11 u = 1 := by
      rw [lk_fin_at, if_neg (by decide), if_neg (by decide)] at b
      by_cases c : u = t
      · rw [if_pos ⟨rfl, c⟩] at b; exact absurd b (by decide)
      · rw [if_neg (fun z => c z.2), if_neg (by omega), if_neg (by omega)] at b; exact b
    rw [gM 12 u (by decide) (by decide) (by decide) (by decide) (by decide)] at o
    rw [gC 18 u (by decide) (by decide) (by decide) (by decide) (by decide), gM 18 u (by decide) (by decide) (by decide) (by decide) (by decide)]
    exact s.ab u hu b' o
  · rw [lk_cfin_at, if_pos rfl, if_neg (by omega)]; exact s.nw
/-- one field of the tasks or the queue is new -/
theorem lk_SX.up (s : lk_SX e C M) {f : Nat} {g h : Nat → Int32} (hg : ∀ i, g i = h i) (hf : f = 10 ∨ (13 ≤ f ∧ f ≤ 17) ∨ (19 ≤ f ∧ f ≤ 22)) : lk_SX e (va_up C f g) (va_up M f h) := by
  have o : ∀ (σ : lk_M) (g : Nat → Int32) a j, a ≠ f → va_up σ f g a j = σ a j := fun σ g a j h => by rw [lk_up_eq, if_neg h]
  refine ⟨fun x hx => ?_, fun x hx => ?_, fun x hx hxe k a h1 h2 => ?_, fun x hx hxe k j hj => ?_, fun x hx k => ?_, fun a j ha => ?_, ?_, ?_, fun t ht => ?_, fun t ht b o' => ?_, ?_⟩
  · rw [o C g 0 x (by omega), o M h 0 x (by omega)]; exact s.k x hx
  · rw [o C g 6 x (by omega), o M h 6 x (by omega)]; exact s.ow x hx
  · rw [o M h 0 x (by omega)] at k
    rw [o C g a x (by omega), o M h a x (by omega)]; exact s.nd x hx hxe k a h1 h2
  · rw [o M h 0 x (by omega)] at k
    rw [o M h 5 x (by omega)] at hj
    rw [o C g 7 _ (by omega), o M h 7 _ (by omega), o C g 8 _ (by omega), o M h 8 _ (by omega)]; exact s.en x hx hxe k j hj
  · rw [o M h 0 x (by omega)] at k
    rw [o C g 9 x (by omega), o M h 9 x (by omega)]; exact s.aw x hx k
  · rw [lk_up_eq, lk_up_eq]
    by_cases c : a = f
    · rw [if_pos c, if_pos c]; exact hg j
    · rw [if_neg c, if_neg c]; exact s.pl a j ha
  · rw [o C g 24 0 (by omega), o M h 24 0 (by omega)]; exact s.rt
  · rw [o C g 24 1 (by omega), o M h 24 1 (by omega)]; exact s.qn
  · rw [o C g 11 t (by omega), o M h 11 t (by omega)]; exact s.bu t ht
  · rw [o M h 11 t (by omega)] at b
    rw [o M h 12 t (by omega)] at o'
    rw [o C g 18 t (by omega), o M h 18 t (by omega)]; exact s.ab t ht b o'
  · rw [o C g 0 24 (by omega)]; exact s.nw
theorem lk_SX.nop (s : lk_SX e C M) {t : Nat} : lk_SX e (lk_nop C t) (lk_nop M t) := s.up (fun i => by rw [s.pl 19 i (by decide)]) (by decide)
theorem lk_SX.srch (s : lk_SX e C M) {t : Nat} {v w : Int32} (h : v = w) : lk_SX e (lk_srch C t v) (lk_srch M t w) := (s.st rfl (by decide)).st h (by decide)
theorem lk_SX.rst (s : lk_SX e C M) {t : Nat} : lk_SX e (lk_rst C t) (lk_rst M t) := (s.nop.srch s.rt).st (by rw [s.pl 22 _ (by decide)]) (by decide)
theorem lk_SX.rgt (s : lk_SX 24 C M) {t p : Nat} (hp : p < 24) (kp : M 0 p = 1) : lk_SX 24 (lk_rgt C t p) (lk_rgt M t p) := (s.st (s.nd p hp (by omega) kp 4 (by decide) (by decide)) (by decide)).st (by rw [s.pl 22 _ (by decide)]) (by decide)
theorem lk_SX.st24 (s : lk_SX e C M) {i : Nat} {v w : Int32} (hv : v = w) : lk_SX e (lk_st C 24 i v) (lk_st M 24 i w) := by
  subst hv
  have g : ∀ (σ : lk_M) a j, a ≠ 24 → lk_st σ 24 i v a j = σ a j := fun σ a j h => lk_st_f h
  refine ⟨fun x hx => ?_, fun x hx => ?_, fun x hx hxe k a h1 h2 => ?_, fun x hx hxe k j hj => ?_, fun x hx k => ?_, fun a j ha => ?_, ?_, ?_, fun t ht => ?_, fun t ht b o => ?_, ?_⟩
  · rw [g C 0 x (by omega), g M 0 x (by omega)]; exact s.k x hx
  · rw [g C 6 x (by omega), g M 6 x (by omega)]; exact s.ow x hx
  · rw [g M 0 x (by omega)] at k
    rw [g C a x (by omega), g M a x (by omega)]; exact s.nd x hx hxe k a h1 h2
  · rw [g M 0 x (by omega)] at k
    rw [g M 5 x (by omega)] at hj
    rw [g C 7 _ (by omega), g M 7 _ (by omega), g C 8 _ (by omega), g M 8 _ (by omega)]; exact s.en x hx hxe k j hj
  · rw [g M 0 x (by omega)] at k
    rw [g C 9 x (by omega), g M 9 x (by omega)]; exact s.aw x hx k
  · rw [g C a j (by omega), g M a j (by omega)]; exact s.pl a j ha
  · rw [lk_st_eq, lk_st_eq]
    by_cases c : 24 = 24 ∧ 0 = i
    · rw [if_pos c, if_pos c]
    · rw [if_neg c, if_neg c]; exact s.rt
  · rw [lk_st_eq, lk_st_eq]
    by_cases c : 24 = 24 ∧ 1 = i
    · rw [if_pos c, if_pos c]
    · rw [if_neg c, if_neg c]; exact s.qn
  · rw [g C 11 t (by omega), g M 11 t (by omega)]; exact s.bu t ht
  · rw [g M 11 t (by omega)] at b
    rw [g M 12 t (by omega)] at o
    rw [g C 18 t (by omega), g M 18 t (by omega)]; exact s.ab t ht b o
  · rw [g C 0 24 (by omega)]; exact s.nw
/-- a store into the thrown flag of the one -/
theorem lk_SX.thr (s : lk_SX e C M) {v : Int32} : lk_SX e C (lk_st M 24 2 v) := by
  have g : ∀ a j, a ≠ 24 ∨ j ≠ 2 → lk_st M 24 2 v a j = M a j := fun a j h => by rw [lk_st_eq, if_neg (by omega)]
  refine ⟨fun x hx => ?_, fun x hx => ?_, fun x hx hxe k a h1 h2 => ?_, fun x hx hxe k j hj => ?_, fun x hx k => ?_, fun a j ha => ?_, ?_, ?_, fun t ht => ?_, fun t ht b o => ?_, s.nw⟩
  · rw [g 0 x (by omega)]; exact s.k x hx
  · rw [g 6 x (by omega)]; exact s.ow x hx
  · rw [g 0 x (by omega)] at k
    rw [g a x (by omega)]; exact s.nd x hx hxe k a h1 h2
  · rw [g 0 x (by omega)] at k
    rw [g 5 x (by omega)] at hj
    rw [g 7 _ (by omega), g 8 _ (by omega)]; exact s.en x hx hxe k j hj
  · rw [g 0 x (by omega)] at k
    rw [g 9 x (by omega)]; exact s.aw x hx k
  · rw [g a j (by omega)]; exact s.pl a j ha
  · rw [g 24 0 (by omega)]; exact s.rt
  · rw [g 24 1 (by omega)]; exact s.qn
  · rw [g 11 t (by omega)]; exact s.bu t ht
  · rw [g 11 t (by omega)] at b
    rw [g 12 t (by omega)] at o
    rw [g 18 t (by omega)]; exact s.ab t ht b o
theorem lk_SX.op (s : lk_SX e C M) {w : Nat → Int32} : lk_SX e C (lk_op M w) := by
  have g : ∀ a j, a ≠ 23 → lk_op M w a j = M a j := fun a j h => by unfold lk_op; rw [lk_up_eq, if_neg h]
  refine ⟨fun x hx => ?_, fun x hx => ?_, fun x hx hxe k a h1 h2 => ?_, fun x hx hxe k j hj => ?_, fun x hx k => ?_, fun a j ha => ?_, ?_, ?_, fun t ht => ?_, fun t ht b o => ?_, s.nw⟩
  · rw [g 0 x (by omega)]; exact s.k x hx
  · rw [g 6 x (by omega)]; exact s.ow x hx
  · rw [g 0 x (by omega)] at k
    rw [g a x (by omega)]; exact s.nd x hx hxe k a h1 h2
  · rw [g 0 x (by omega)] at k
    rw [g 5 x (by omega)] at hj
    rw [g 7 _ (by omega), g 8 _ (by omega)]; exact s.en x hx hxe k j hj
  · rw [g 0 x (by omega)] at k
    rw [g 9 x (by omega)]; exact s.aw x hx k
  · rw [g a j (by omega)]; exact s.pl a j ha
  · rw [g 24 0 (by omega)]; exact s.rt
  · rw [g 24 1 (by omega)]; exact s.qn
  · rw [g 11 t (by omega)]; exact s.bu t ht
  · rw [g 11 t (by omega)] at b
    rw [g 12 t (by omega)] at o
    rw [g 18 t (by omega)]; exact s.ab t ht b o
/-- the class's memory beside: a field above all -/
theorem lk_SX.box (s : lk_SX e C M) {v : Int32} {i : Nat} : lk_SX e (lk_st C 25 i v) M := by
  have g : ∀ a j, a ≠ 25 → lk_st C 25 i v a j = C a j := fun a j h => lk_st_f h
  refine ⟨fun x hx => ?_, fun x hx => ?_, fun x hx hxe k a h1 h2 => ?_, fun x hx hxe k j hj => ?_, fun x hx k => ?_, fun a j ha => ?_, ?_, ?_, fun t ht => ?_, fun t ht b o => ?_, ?_⟩
  · rw [g 0 x (by omega)]; exact s.k x hx
  · rw [g 6 x (by omega)]; exact s.ow x hx
  · rw [g a x (by omega)]; exact s.nd x hx hxe k a h1 h2
  · rw [g 7 _ (by omega), g 8 _ (by omega)]; exact s.en x hx hxe k j hj
  · rw [g 9 x (by omega)]; exact s.aw x hx k
  · rw [g a j (by omega)]; exact s.pl a j ha
  · rw [g 24 0 (by omega)]; exact s.rt
  · rw [g 24 1 (by omega)]; exact s.qn
  · rw [g 11 t (by omega)]; exact s.bu t ht
  · rw [g 18 t (by omega)]; exact s.ab t ht b o
  · rw [g 0 24 (by omega)]; exact s.nw
/-- a value is stored -/
theorem lk_SX.st8 (s : lk_SX e C M) {i : Nat} {v w : Int32} (hv : v = w) : lk_SX e (lk_st C 8 i v) (lk_st M 8 i w) := by
  subst hv
  have g : ∀ (σ : lk_M) a j, a ≠ 8 → lk_st σ 8 i v a j = σ a j := fun σ a j h => lk_st_f h
  refine s.pg (fun f j hf => g C f j (by omega)) (fun f j hf => g M f j (by omega)) (fun x hx => ?_) (fun x hx => ?_) (fun x hx k => ?_) (fun x hx hxe k f h1 h2 => ?_) (fun x hx hxe k j hj => ?_) (g C 0 24 (by decide))
  · rw [g C 0 x (by decide), g M 0 x (by decide)]; exact s.k x hx
  · rw [g C 6 x (by decide), g M 6 x (by decide)]; exact s.ow x hx
  · rw [g M 0 x (by decide)] at k; exact k
  · rw [g M 0 x (by decide)] at k
    rw [g C f x (by omega), g M f x (by omega)]; exact s.nd x hx hxe k f h1 h2
  · rw [g M 0 x (by decide)] at k
    rw [g M 5 x (by decide)] at hj
    rw [g C 7 _ (by decide), g M 7 _ (by decide), lk_st_eq, lk_st_eq]
    refine ⟨(s.en x hx hxe k j hj).1, ?_⟩
    by_cases c : 8 = 8 ∧ 5 * x + j = i
    · rw [if_pos c, if_pos c]
    · rw [if_neg c, if_neg c]; exact (s.en x hx hxe k j hj).2
theorem lk_SX.ins (s : lk_SX e C M) (b5 : lk_B5 M) {p j n : Nat} {a b : Int32} (hp : p < 24) (hpe : p ≠ e) (kp : M 0 p = 1) (h5 : M 5 p = nI n) (hn : n ≤ 4) (hj : j ≤ n) : lk_SX e (lk_ins C p j n a b) (lk_ins M p j n a b) := by
  have g : ∀ (σ : lk_M) f i, f ≠ 5 → f ≠ 7 → f ≠ 8 → lk_ins σ p j n a b f i = σ f i := fun σ f i h5 h7 h8 => lk_ins_f h5 h7 h8
  refine s.pg (fun f i hf => g C f i (by omega) (by omega) (by omega)) (fun f i hf => g M f i (by omega) (by omega) (by omega)) (fun x hx => ?_) (fun x hx => ?_) (fun x hx k => ?_) (fun x hx hxe k f h1 h2 => ?_) (fun x hx hxe k i hi => ?_) (g C 0 24 (by decide) (by decide) (by decide))
  · rw [g C 0 x (by decide) (by decide) (by decide), g M 0 x (by decide) (by decide) (by decide)]; exact s.k x hx
  · rw [g C 6 x (by decide) (by decide) (by decide), g M 6 x (by decide) (by decide) (by decide)]; exact s.ow x hx
  · rw [g M 0 x (by decide) (by decide) (by decide)] at k; exact k
  · rw [g M 0 x (by decide) (by decide) (by decide)] at k
    by_cases c : f = 5
    · subst c
      rw [lk_ins_5, lk_ins_5]
      by_cases c2 : x = p
      · rw [if_pos c2, if_pos c2]
      · rw [if_neg c2, if_neg c2]; exact s.nd x hx hxe k 5 h1 h2
    · rw [g C f x c (by omega) (by omega), g M f x c (by omega) (by omega)]; exact s.nd x hx hxe k f h1 h2
  · rw [g M 0 x (by decide) (by decide) (by decide)] at k
    rw [lk_ins_5] at hi
    by_cases c : x = p
    · rw [if_pos c, nI_toInt (by omega)] at hi
      subst c
      have i5 : i < 5 := by omega
      rw [lk_ins_7 hn hj i5, lk_ins_7 hn hj i5, lk_ins_8 hn hj i5, lk_ins_8 hn hj i5, if_pos rfl, if_pos rfl, if_pos rfl, if_pos rfl]
      by_cases c1 : i < j
      · rw [if_pos c1, if_pos c1, if_pos c1, if_pos c1]
        exact ⟨s.e7 hx hxe k h5 (by omega) (by omega), s.e8 hx hxe k h5 (by omega) (by omega)⟩
      · rw [if_neg c1, if_neg c1, if_neg c1, if_neg c1]
        by_cases c2 : i = j
        · rw [if_pos c2, if_pos c2, if_pos c2, if_pos c2]; exact ⟨rfl, rfl⟩
        · rw [if_neg c2, if_neg c2, if_neg c2, if_neg c2, if_pos (by omega), if_pos (by omega), if_pos (by omega), if_pos (by omega)]
          exact ⟨s.e7 hx hxe k h5 (by omega) (by omega), s.e8 hx hxe k h5 (by omega) (by omega)⟩
    · rw [if_neg c] at hi
      have i5 : i < 5 := by have := b5 x hx k; omega
      rw [lk_ins_7 hn hj i5, lk_ins_7 hn hj i5, lk_ins_8 hn hj i5, lk_ins_8 hn hj i5, if_neg c, if_neg c, if_neg c, if_neg c]
      exact s.en x hx hxe k i hi
theorem lk_SX.del (s : lk_SX e C M) (b5 : lk_B5 M) {p j n : Nat} (hp : p < 24) (hpe : p ≠ e) (kp : M 0 p = 1) (h5 : M 5 p = nI n) (hn : n ≤ 4) : lk_SX e (lk_del C p j n) (lk_del M p j n) := by
  have g : ∀ (σ : lk_M) f i, f ≠ 5 → f ≠ 7 → f ≠ 8 → lk_del σ p j n f i = σ f i := fun σ f i h5 h7 h8 => lk_del_f h5 h7 h8
  refine s.pg (fun f i hf => g C f i (by omega) (by omega) (by omega)) (fun f i hf => g M f i (by omega) (by omega) (by omega)) (fun x hx => ?_) (fun x hx => ?_) (fun x hx k => ?_) (fun x hx hxe k f h1 h2 => ?_) (fun x hx hxe k i hi => ?_) (g C 0 24 (by decide) (by decide) (by decide))
  · rw [g C 0 x (by decide) (by decide) (by decide), g M 0 x (by decide) (by decide) (by decide)]; exact s.k x hx
  · rw [g C 6 x (by decide) (by decide) (by decide), g M 6 x (by decide) (by decide) (by decide)]; exact s.ow x hx
  · rw [g M 0 x (by decide) (by decide) (by decide)] at k; exact k
  · rw [g M 0 x (by decide) (by decide) (by decide)] at k
    by_cases c : f = 5
    · subst c
      rw [lk_del_5, lk_del_5]
      by_cases c2 : x = p
      · rw [if_pos c2, if_pos c2]
      · rw [if_neg c2, if_neg c2]; exact s.nd x hx hxe k 5 h1 h2
    · rw [g C f x c (by omega) (by omega), g M f x c (by omega) (by omega)]; exact s.nd x hx hxe k f h1 h2
  · rw [g M 0 x (by decide) (by decide) (by decide)] at k
    rw [lk_del_5] at hi
    by_cases c : x = p
    · rw [if_pos c, nI_toInt (by omega)] at hi
      subst c
      have i5 : i < 5 := by omega
      rw [lk_del_7 (by omega) i5, lk_del_7 (by omega) i5, lk_del_8 (by omega) i5, lk_del_8 (by omega) i5, if_pos rfl, if_pos rfl, if_pos rfl, if_pos rfl]
      by_cases c1 : i < j
      · rw [if_pos c1, if_pos c1, if_pos c1, if_pos c1]
        exact ⟨s.e7 hx hxe k h5 (by omega) (by omega), s.e8 hx hxe k h5 (by omega) (by omega)⟩
      · rw [if_neg c1, if_neg c1, if_neg c1, if_neg c1, if_pos (by omega), if_pos (by omega), if_pos (by omega), if_pos (by omega)]
        exact ⟨s.e7 hx hxe k h5 (by omega) (by omega), s.e8 hx hxe k h5 (by omega) (by omega)⟩
    · rw [if_neg c] at hi
      have i5 : i < 5 := by have := b5 x hx k; omega
      rw [lk_del_7 (by omega) i5, lk_del_7 (by omega) i5, lk_del_8 (by omega) i5, lk_del_8 (by omega) i5, if_neg c, if_neg c, if_neg c, if_neg c]
      exact s.en x hx hxe k i hi
theorem lk_SX.cq (s : lk_SX e C M) {x : Int32} {n : Nat} : lk_SX e (lk_cq C x n) (lk_cq M x n) := by
  have e10 : C 10 = M 10 := funext (fun i => s.pl 10 i (by decide))
  unfold lk_cq
  rw [e10]
  by_cases c : lk_has (M 10) x n ∨ n = 12
  · rw [if_pos c, if_pos c]; exact s
  · rw [if_neg c, if_neg c]; exact (s.st rfl (by decide)).st24 rfl
theorem lk_lq_st (σ : lk_M) (x : Int32) (n : Nat) : lk_lq σ x n = lk_st (va_up σ 10 (lk_cmp (σ 10) x n).1) 24 1 (nI (lk_cmp (σ 10) x n).2) := by
  funext f i
  rw [lk_st_eq]
  unfold lk_lq
  simp only [lk_up_eq]
  by_cases c : f = 24
  · subst c
    rw [if_pos rfl]
    unfold upd
    by_cases c1 : i = 1
    · rw [if_pos c1, if_pos ⟨rfl, c1⟩]
    · rw [if_neg c1, if_neg (fun z => c1 z.2), if_neg (by decide)]
  · rw [if_neg c, if_neg (show ¬ (f = 24 ∧ i = 1) by omega)]
theorem lk_SX.lq (s : lk_SX e C M) {x : Int32} {n : Nat} : lk_SX e (lk_lq C x n) (lk_lq M x n) := by
  have e10 : C 10 = M 10 := funext (fun i => s.pl 10 i (by decide))
  rw [lk_lq_st, lk_lq_st, e10]
  exact (s.up (fun i => rfl) (by decide)).st24 rfl
end Pieces
