/-! the class's memory and the reference's: what they share. e: a page that is left out -/
def lk_SX (e : Nat) (C M : lk_M) : Prop :=
  (∀ x, x < 24 → C 0 x = M 0 x) ∧
  (∀ x, x < 24 → C 6 x = M 6 x) ∧
  (∀ x, x < 24 → x ≠ e → M 0 x = 1 → ∀ f, 1 ≤ f → f ≤ 5 → C f x = M f x) ∧
  (∀ x, x < 24 → x ≠ e → M 0 x = 1 → ∀ i : Nat, (i : Int) < (M 5 x).toInt → C 7 (5 * x + i) = M 7 (5 * x + i) ∧ C 8 (5 * x + i) = M 8 (5 * x + i)) ∧
  (∀ x, x < 24 → M 0 x = 2 → C 9 x = M 9 x) ∧
  (∀ f i, f = 10 ∨ (12 ≤ f ∧ f ≤ 17) ∨ (19 ≤ f ∧ f ≤ 22) → C f i = M f i) ∧
  (C 24 0 = M 24 0) ∧
  (C 24 1 = M 24 1) ∧
  (∀ t, t < 4 → (C 11 t = 0 ↔ M 11 t ≠ 0) ∧ (C 11 t = 0 ∨ C 11 t = 1)) ∧
  (∀ t, t < 4 → M 11 t = 1 → M 12 t = 3 ∨ M 12 t = 4 → C 18 t = M 18 t) ∧
  (C 0 24 = 2)
theorem lk_SX.k {e : Nat} {C M : lk_M} (s : lk_SX e C M) : ∀ x, x < 24 → C 0 x = M 0 x := s.1
theorem lk_SX.ow {e : Nat} {C M : lk_M} (s : lk_SX e C M) : ∀ x, x < 24 → C 6 x = M 6 x := s.2.1
theorem lk_SX.nd {e : Nat} {C M : lk_M} (s : lk_SX e C M) : ∀ x, x < 24 → x ≠ e → M 0 x = 1 → ∀ f, 1 ≤ f → f ≤ 5 → C f x = M f x := s.2.2.1
theorem lk_SX.en {e : Nat} {C M : lk_M} (s : lk_SX e C M) : ∀ x, x < 24 → x ≠ e → M 0 x = 1 → ∀ i : Nat, (i : Int) < (M 5 x).toInt → C 7 (5 * x + i) = M 7 (5 * x + i) ∧ C 8 (5 * x + i) = M 8 (5 * x + i) := s.2.2.2.1
theorem lk_SX.aw {e : Nat} {C M : lk_M} (s : lk_SX e C M) : ∀ x, x < 24 → M 0 x = 2 → C 9 x = M 9 x := s.2.2.2.2.1
theorem lk_SX.pl {e : Nat} {C M : lk_M} (s : lk_SX e C M) : ∀ f i, f = 10 ∨ (12 ≤ f ∧ f ≤ 17) ∨ (19 ≤ f ∧ f ≤ 22) → C f i = M f i := s.2.2.2.2.2.1
theorem lk_SX.rt {e : Nat} {C M : lk_M} (s : lk_SX e C M) : C 24 0 = M 24 0 := s.2.2.2.2.2.2.1
theorem lk_SX.qn {e : Nat} {C M : lk_M} (s : lk_SX e C M) : C 24 1 = M 24 1 := s.2.2.2.2.2.2.2.1
theorem lk_SX.bu {e : Nat} {C M : lk_M} (s : lk_SX e C M) : ∀ t, t < 4 → (C 11 t = 0 ↔ M 11 t ≠ 0) ∧ (C 11 t = 0 ∨ C 11 t = 1) := s.2.2.2.2.2.2.2.2.1
theorem lk_SX.ab {e : Nat} {C M : lk_M} (s : lk_SX e C M) : ∀ t, t < 4 → M 11 t = 1 → M 12 t = 3 ∨ M 12 t = 4 → C 18 t = M 18 t := s.2.2.2.2.2.2.2.2.2.1
theorem lk_SX.nw {e : Nat} {C M : lk_M} (s : lk_SX e C M) : C 0 24 = 2 := s.2.2.2.2.2.2.2.2.2.2
def lk_Sim (C M : lk_M) : Prop := lk_SX 24 C M
section SX
variable {e : Nat} {C M : lk_M}
theorem lk_SX.t (s : lk_SX e C M) {f i : Nat} (h : f = 10 ∨ (12 ≤ f ∧ f ≤ 17) ∨ (19 ≤ f ∧ f ≤ 22) := by decide) : C f i = M f i := s.pl f i h
/-- a store into a place that both read alike -/
theorem lk_SX.st (s : lk_SX e C M) {f i : Nat} {v w : Int32} (hv : v = w) (h : f = 10 ∨ (13 ≤ f ∧ f ≤ 17) ∨ (19 ≤ f ∧ f ≤ 22)) : lk_SX e (lk_st C f i v) (lk_st M f i w) := by
  subst hv
  have g : ∀ (σ : lk_M) a j, a ≠ f → lk_st σ f i v a j = σ a j := fun σ a j h => lk_st_f h
  refine ⟨fun x hx => ?_, fun x hx => ?_, fun x hx hxe k a h1 h2 => ?_, fun x hx hxe k j hj => ?_, fun x hx k => ?_, fun a j ha => ?_, ?_, ?_, fun t ht => ?_, fun t ht b o => ?_, ?_⟩
  · rw [g C 0 x (by omega), g M 0 x (by omega)]; exact s.k x hx
  · rw [g C 6 x (by omega), g M 6 x (by omega)]; exact s.ow x hx
  · rw [g M 0 x (by omega)] at k
    rw [g C a x (by omega), g M a x (by omega)]; exact s.nd x hx hxe k a h1 h2
  · rw [g M 0 x (by omega)] at k
    rw [g M 5 x (by omega)] at hj
    rw [g C 7 _ (by omega), g M 7 _ (by omega), g C 8 _ (by omega), g M 8 _ (by omega)]; exact s.en x hx hxe k j hj
  · rw [g M 0 x (by omega)] at k
    rw [g C 9 x (by omega), g M 9 x (by omega)]; exact s.aw x hx k
  · rw [lk_st_eq, lk_st_eq]
    by_cases c : a = f ∧ j = i
    · rw [if_pos c, if_pos c]
    · rw [if_neg c, if_neg c]; exact s.pl a j ha
  · rw [g C 24 0 (by omega), g M 24 0 (by omega)]; exact s.rt
  · rw [g C 24 1 (by omega), g M 24 1 (by omega)]; exact s.qn
  · rw [g C 11 t (by omega), g M 11 t (by omega)]; exact s.bu t ht
  · rw [g M 11 t (by omega)] at b
    rw [g M 12 t (by omega)] at o
    rw [g C 18 t (by omega), g M 18 t (by omega)]; exact s.ab t ht b o
  · rw [g C 0 24 (by omega)]; exact s.nw
theorem lk_SX.st6 (s : lk_SX e C M) {i : Nat} {v : Int32} : lk_SX e (lk_st C 6 i v) (lk_st M 6 i v) := by
  have g : ∀ (σ : lk_M) a j, a ≠ 6 → lk_st σ 6 i v a j = σ a j := fun σ a j h => lk_st_f h
  refine ⟨fun x hx => ?_, fun x hx => ?_, fun x hx hxe k a h1 h2 => ?_, fun x hx hxe k j hj => ?_, fun x hx k => ?_, fun a j ha => ?_, ?_, ?_, fun t ht => ?_, fun t ht b o => ?_, ?_⟩
  · rw [g C 0 x (by omega), g M 0 x (by omega)]; exact s.k x hx
  · rw [lk_st_eq, lk_st_eq]
    by_cases c : 6 = 6 ∧ x = i
    · rw [if_pos c, if_pos c]
    · rw [if_neg c, if_neg c]; exact s.ow x hx
  · rw [g M 0 x (by omega)] at k
    rw [g C a x (by omega), g M a x (by omega)]; exact s.nd x hx hxe k a h1 h2
  · rw [g M 0 x (by omega)] at k
    rw [g M 5 x (by omega)] at hj
    rw [g C 7 _ (by omega), g M 7 _ (by omega), g C 8 _ (by omega), g M 8 _ (by omega)]; exact s.en x hx hxe k j hj
  · rw [g M 0 x (by omega)] at k
    rw [g C 9 x (by omega), g M 9 x (by omega)]; exact s.aw x hx k
  · rw [g C a j (by omega), g M a j (by omega)]; exact s.pl a j ha
  · rw [g C 24 0 (by omega), g M 24 0 (by omega)]; exact s.rt
  · rw [g C 24 1 (by omega), g M 24 1 (by omega)]; exact s.qn
  · rw [g C 11 t (by omega), g M 11 t (by omega)]; exact s.bu t ht
  · rw [g M 11 t (by omega)] at b
    rw [g M 12 t (by omega)] at o
    rw [g C 18 t (by omega), g M 18 t (by omega)]; exact s.ab t ht b o
  · rw [g C 0 24 (by omega)]; exact s.nw
/-- what both leave but the pages' own fields, the same on both sides -/
theorem lk_SX.pg {e' : Nat} {C' M' : lk_M} (s : lk_SX e C M) (hC : ∀ f i, 8 < f → C' f i = C f i) (hM : ∀ f i, 8 < f → M' f i = M f i) (hk : ∀ x, x < 24 → C' 0 x = M' 0 x) (ho : ∀ x, x < 24 → C' 6 x = M' 6 x) (hk2 : ∀ x, x < 24 → M' 0 x = 2 → M 0 x = 2) (hn : ∀ x, x < 24 → x ≠ e' → M' 0 x = 1 → ∀ f, 1 ≤ f → f ≤ 5 → C' f x = M' f x) (he : ∀ x, x < 24 → x ≠ e' → M' 0 x = 1 → ∀ i : Nat, (i : Int) < (M' 5 x).toInt → C' 7 (5 * x + i) = M' 7 (5 * x + i) ∧ C' 8 (5 * x + i) = M' 8 (5 * x + i)) (hw : C' 0 24 = C 0 24) : lk_SX e' C' M' := by
  refine ⟨hk, ho, hn, he, fun x hx k => ?_, fun a j ha => ?_, ?_, ?_, fun t ht => ?_, fun t ht b o => ?_, hw.trans s.nw⟩
  · rw [hC 9 x (by omega), hM 9 x (by omega)]; exact s.aw x hx (hk2 x hx k)
  · rw [hC a j (by omega), hM a j (by omega)]; exact s.pl a j ha
  · rw [hC 24 0 (by omega), hM 24 0 (by omega)]; exact s.rt
  · rw [hC 24 1 (by omega), hM 24 1 (by omega)]; exact s.qn
  · rw [hC 11 t (by omega), hM 11 t (by omega)]; exact s.bu t ht
  · rw [hM 11 t (by omega)] at b
    rw [hM 12 t (by omega)] at o
    rw [hC 18 t (by omega), hM 18 t (by omega)]; exact s.ab t ht b o
/-- reading -/
theorem lk_fr_cong {f g : Nat → Int32} {k : Int32} : ∀ (n b : Nat), (∀ i, i < n → f (b + i) = g (b + i)) → lk_fr f k n b = lk_fr g k n b := by
  intro n
  induction n with
  | zero => intro b _; rfl
  | succ n ih =>
    intro b h
    have h0 : f b = g b := h 0 (by omega)
    unfold lk_fr
    rw [h0, ih (b + 1) (fun i hi => by have := h (i + 1) (by omega); rw [show b + (i + 1) = b + 1 + i by omega] at this; exact this)]
theorem lk_ff_cong {f g : Nat → Int32} {k : Int32} : ∀ (n b : Nat), (∀ i, i < n → f (b + i) = g (b + i)) → lk_ff f k n b = lk_ff g k n b := by
  intro n
  induction n with
  | zero => intro b _; rfl
  | succ n ih =>
    intro b h
    have h0 : f b = g b := h 0 (by omega)
    unfold lk_ff
    rw [h0, ih (b + 1) (fun i hi => by have := h (i + 1) (by omega); rw [show b + (i + 1) = b + 1 + i by omega] at this; exact this)]
theorem lk_SX.e7 (s : lk_SX e C M) {p n i : Nat} (hp : p < 24) (hpe : p ≠ e) (kp : M 0 p = 1) (h5 : M 5 p = nI n) (hn : n ≤ 5) (hi : i < n) : C 7 (5 * p + i) = M 7 (5 * p + i) := (s.en p hp hpe kp i (by rw [h5, nI_toInt (by omega)]; omega)).1
theorem lk_SX.e8 (s : lk_SX e C M) {p n i : Nat} (hp : p < 24) (hpe : p ≠ e) (kp : M 0 p = 1) (h5 : M 5 p = nI n) (hn : n ≤ 5) (hi : i < n) : C 8 (5 * p + i) = M 8 (5 * p + i) := (s.en p hp hpe kp i (by rw [h5, nI_toInt (by omega)]; omega)).2
theorem lk_SX.at (s : lk_SX e C M) {p n : Nat} {k : Int32} (hp : p < 24) (hpe : p ≠ e) (kp : M 0 p = 1) (h5 : M 5 p = nI n) (hn : n ≤ 5) : lk_at C p n k = lk_at M p n k :=
  lk_fr_cong n (5 * p) (fun i hi => s.e7 hp hpe kp h5 hn hi)
theorem lk_SX.hk (s : lk_SX e C M) {p n : Nat} {k : Int32} (hp : p < 24) (hpe : p ≠ e) (kp : M 0 p = 1) (h5 : M 5 p = nI n) (hn : n ≤ 5) : lk_hk C p n k ↔ lk_hk M p n k := by
  unfold lk_hk
  rw [s.at hp hpe kp h5 hn]
  constructor
  · rintro ⟨a, b⟩; exact ⟨a, by rw [← s.e7 hp hpe kp h5 hn a]; exact b⟩
  · rintro ⟨a, b⟩; exact ⟨a, by rw [s.e7 hp hpe kp h5 hn a]; exact b⟩
theorem lk_SX.ch (s : lk_SX e C M) {p n : Nat} {k : Int32} (hp : p < 24) (hpe : p ≠ e) (kp : M 0 p = 1) (h5 : M 5 p = nI n) (hn : n ≤ 5) : lk_ch C p n k = lk_ch M p n k := by
  unfold lk_ch
  rw [lk_ff_cong n (5 * p) (fun i hi => s.e8 hp hpe kp h5 hn hi)]
theorem lk_SX.free (s : lk_SX e C M) : lk_free C = lk_free M := lk_ff_cong 24 0 (fun i hi => by rw [Nat.zero_add]; exact s.k i hi)
theorem lk_SX.lost (s : lk_SX 24 C M) {t p : Nat} (hp : p < 24) : lk_lost C t p ↔ lk_lost M t p := by
  unfold lk_lost
  rw [s.k p hp, s.pl 15 t (by decide)]
  by_cases c : M 0 p = 1
  · rw [s.nd p hp (by omega) c 2 (by decide) (by decide)]
  · constructor <;> intro _ <;> exact Or.inl c
/-- the tree of the one is the tree of the other -/
theorem lk_SX.TR (s : lk_SX 24 C M) {rt : Nat} (h : lk_TR M rt) : lk_TR C rt := by
  obtain ⟨h1, h2, h3, h4, h5, h6, h7⟩ := h
  have zk : ∀ x, x < 24 → lk_zi C 0 x = lk_zi M 0 x := fun x hx => congrArg Int32.toInt (s.k x hx)
  have k : ∀ x, x < 24 → lk_zi C 0 x = 1 → lk_zi M 0 x = 1 := fun x hx kx => by rw [← zk x hx]; exact kx
  have z : ∀ x, x < 24 → lk_zi M 0 x = 1 → ∀ f, 1 ≤ f → f ≤ 5 → lk_zi C f x = lk_zi M f x := fun x hx kx f a b => congrArg Int32.toInt (s.nd x hx (by omega) (lk_z1.mp kx) f a b)
  have z7 : ∀ x, x < 24 → lk_zi M 0 x = 1 → ∀ i : Nat, (i : Int) < lk_zi M 5 x → lk_zf C 7 x i = lk_zf M 7 x i := fun x hx kx i hi => congrArg Int32.toInt (s.en x hx (by omega) (lk_z1.mp kx) i hi).1
  have z8 : ∀ x, x < 24 → lk_zi M 0 x = 1 → ∀ i : Nat, (i : Int) < lk_zi M 5 x → lk_zf C 8 x i = lk_zf M 8 x i := fun x hx kx i hi => congrArg Int32.toInt (s.en x hx (by omega) (lk_z1.mp kx) i hi).2
  have kr := h7.2.1
  refine ⟨fun x hx kx => ?_, fun x hx kx r => ?_, fun x hx kx i hi => ?_, fun x hx kx l => ?_, fun x hx kx l i hi => ?_, fun x y hx hy kx ky el ne => ?_, h7.1, (zk rt h7.1).trans kr, (z rt h7.1 kr 2 (by decide) (by decide)).trans h7.2.2⟩
  · have kx := k x hx kx
    rw [z x hx kx 1 (by decide) (by decide), z x hx kx 2 (by decide) (by decide), z x hx kx 3 (by decide) (by decide), z x hx kx 4 (by decide) (by decide), z x hx kx 5 (by decide) (by decide), z rt h7.1 kr 1 (by decide) (by decide)]
    exact h1 x hx kx
  · have kx := k x hx kx
    rw [z x hx kx 4 (by decide) (by decide)] at r ⊢
    obtain ⟨y, y1, y2, y3, y4, y5⟩ := h2 x hx kx r
    exact ⟨y, y1, y2, (zk y y1).trans y3, by rw [z x hx kx 1 (by decide) (by decide), z y y1 y3 1 (by decide) (by decide)]; exact y4, by rw [z x hx kx 3 (by decide) (by decide), z y y1 y3 2 (by decide) (by decide)]; exact y5⟩
  · have kx := k x hx kx
    rw [z x hx kx 5 (by decide) (by decide)] at hi ⊢
    obtain ⟨a, b, c⟩ := h3 x hx kx i hi
    rw [z7 x hx kx i hi, z x hx kx 2 (by decide) (by decide), z x hx kx 3 (by decide) (by decide)]
    refine ⟨a, b, fun g => ?_⟩
    rw [z7 x hx kx (i + 1) (by omega)]
    exact c g
  · have kx := k x hx kx
    rw [z x hx kx 1 (by decide) (by decide)] at l
    rw [z x hx kx 5 (by decide) (by decide), z x hx kx 3 (by decide) (by decide)]
    obtain ⟨a, b⟩ := h4 x hx kx l
    refine ⟨a, fun i g => ?_⟩
    rw [z7 x hx kx i (by omega)]
    exact b i g
  · have kx := k x hx kx
    rw [z x hx kx 1 (by decide) (by decide)] at l
    rw [z x hx kx 5 (by decide) (by decide)] at hi
    obtain ⟨c, c1, c2, c3, c4, c5⟩ := h5 x hx kx l i hi
    refine ⟨c, c1, by rw [z8 x hx kx i hi]; exact c2, (zk c c1).trans c3, by rw [z x hx kx 1 (by decide) (by decide), z c c1 c3 1 (by decide) (by decide)]; exact c4, ?_⟩
    rw [z c c1 c3 2 (by decide) (by decide), c5]
    cases i with
    | zero => rw [lk_lo_0, lk_lo_0, z x hx kx 2 (by decide) (by decide)]
    | succ i => rw [lk_lo_s, lk_lo_s, z7 x hx kx i (by omega)]
  · have kx := k x hx kx
    have ky := k y hy ky
    rw [z x hx kx 1 (by decide) (by decide), z y hy ky 1 (by decide) (by decide)] at el
    rw [z x hx kx 2 (by decide) (by decide), z x hx kx 3 (by decide) (by decide), z y hy ky 2 (by decide) (by decide), z y hy ky 3 (by decide) (by decide)]
    exact h6 x y hx hy kx ky el ne
end SX
