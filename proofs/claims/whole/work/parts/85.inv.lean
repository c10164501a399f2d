/-! what holds of the reference's memory between two calls -/
def lk_zi (M : lk_M) (a : Nat) : Nat → Int := fun i => (M a i).toInt
def lk_zf (M : lk_M) (a : Nat) : Nat → Nat → Int := fun p i => (M a (5 * p + i)).toInt
def lk_TR (M : lk_M) (rt : Nat) : Prop := lk_Tr (lk_zi M 0) (lk_zi M 1) (lk_zi M 2) (lk_zi M 3) (lk_zi M 4) (lk_zi M 5) (lk_zf M 7) (lk_zf M 8) rt
/-- the page x is there for the task t: a node, or dead and awaiting t -/
def lk_al (M : lk_M) (t x : Nat) : Prop := M 0 x = 1 ∨ (M 0 x = 2 ∧ M 9 x &&& lk_bit t ≠ 0)
/-- no entry's child -/
def lk_nc (M : lk_M) (q : Nat) : Prop := ∀ p i : Nat, p < 24 → lk_zi M 0 p = 1 → 0 < lk_zi M 1 p → (i : Int) < lk_zi M 5 p → lk_zf M 8 p i ≠ (q : Int)
def lk_N4 (M : lk_M) : Prop := ∀ p, p < 24 → M 0 p = 1 → ∃ n, n ≤ 4 ∧ M 5 p = nI n
def lk_QU (M : lk_M) : Prop := ∃ n, n ≤ 12 ∧ M 24 1 = nI n ∧ ∀ i, i < n → ∃ x, x < 24 ∧ M 10 i = nI x ∧ M 0 x = 1
def lk_OW (M : lk_M) : Prop := ∀ p, p < 24 → M 6 p = -1 ∨ ∃ t, t < 4 ∧ M 6 p = nI t ∧ M 11 t = 1 ∧ M 13 t = 2 ∧ M 14 t = nI p
def lk_AW (M : lk_M) : Prop := ∀ p, p < 24 → M 0 p = 2 → ∃ a, a < 16 ∧ M 9 p = nI a
def lk_KD (M : lk_M) : Prop := ∀ p, p < 24 → M 0 p = 0 ∨ M 0 p = 1 ∨ M 0 p = 2
def lk_BU (M : lk_M) : Prop := ∀ t, t < 4 → (M 11 t = 0 ∨ M 11 t = 1) ∧ (M 20 t = 0 ∨ M 20 t = 1)
/-- a posting task -/
def lk_PO (M : lk_M) (t : Nat) : Prop := M 16 t ≠ 0 ∧ ∃ q, q < 24 ∧ M 18 t = nI q ∧ M 0 q = 1 ∧ M 1 q + 1 = M 16 t ∧ M 2 q = M 15 t ∧ lk_nc M q
def lk_TK (M : lk_M) (t : Nat) : Prop :=
  (∃ o, o ≤ 4 ∧ M 12 t = nI o) ∧ (∃ f, f ≤ 2 ∧ M 13 t = nI f) ∧ (∃ k, k ≤ 999 ∧ M 15 t = nI k) ∧ (∃ w, w ≤ 24 ∧ M 16 t = nI w) ∧
  (∃ x, x < 24 ∧ M 14 t = nI x ∧ lk_al M t x ∧ (M 13 t ≠ 0 → M 0 x = 1 → M 1 x = M 16 t)) ∧
  (∀ i, i < 32 → M 19 (32 * t + i) = -1 ∨ ∃ x, x < 24 ∧ M 19 (32 * t + i) = nI x ∧ lk_al M t x) ∧
  (M 12 t = 0 ∨ M 12 t = 1 ∨ M 12 t = 2 → M 16 t = 0) ∧ (M 12 t = 0 → M 13 t = 0) ∧
  (M 12 t = 3 → (M 18 t = -1 ∧ M 13 t = 0) ∨ (∃ x, x < 24 ∧ M 18 t = nI x ∧ M 16 t ≠ 0)) ∧ (M 12 t = 4 → lk_PO M t)
/-- two posting tasks post two pages -/
def lk_P2 (M : lk_M) : Prop := ∀ t u, t < 4 → u < 4 → t ≠ u → M 11 t = 1 → M 11 u = 1 → M 12 t = 4 → M 12 u = 4 → M 18 t ≠ M 18 u
def lk_Inv (M : lk_M) : Prop := (∃ rt, M 24 0 = nI rt ∧ lk_TR M rt) ∧ lk_N4 M ∧ lk_QU M ∧ lk_OW M ∧ lk_AW M ∧ lk_KD M ∧ lk_BU M ∧ (∀ t, t < 4 → M 11 t = 1 → lk_TK M t) ∧ lk_P2 M
/-- bits -/
def lk_bq (a t : Nat) : Bool := decide ((nI a &&& lk_off t).toNatClampNeg < 16) && (decide (nI a &&& lk_off t = nI (nI a &&& lk_off t).toNatClampNeg) && (List.range 4).all (fun u => decide (u = t) || (decide (nI a &&& lk_bit u = 0) || !decide ((nI a &&& lk_off t) &&& lk_bit u = 0))))
theorem lk_bq_all : (List.range 16).all (fun a => (List.range 4).all (fun t => lk_bq a t)) = true := by decide +kernel
theorem lk_bits (a : Nat) (ha : a < 16) (t : Nat) (ht : t < 4) : ∃ b, b < 16 ∧ nI a &&& lk_off t = nI b ∧ ∀ u, u < 4 → u ≠ t → nI a &&& lk_bit u ≠ 0 → nI b &&& lk_bit u ≠ 0 := by
  have h := List.all_eq_true.mp (List.all_eq_true.mp lk_bq_all a (List.mem_range.mpr ha)) t (List.mem_range.mpr ht)
  unfold lk_bq at h
  rw [Bool.and_eq_true, Bool.and_eq_true] at h
  obtain ⟨h1, h2, h3⟩ := h
  have h2 := of_decide_eq_true h2
  refine ⟨_, of_decide_eq_true h1, h2, fun u hu hn hz => ?_⟩
  rw [← h2]
  have h4 := List.all_eq_true.mp h3 u (List.mem_range.mpr hu)
  rw [Bool.or_eq_true, Bool.or_eq_true] at h4
  rcases h4 with h4 | h4 | h4
  · exact absurd (of_decide_eq_true h4) hn
  · exact absurd (of_decide_eq_true h4) hz
  · intro z
    rw [decide_eq_true z] at h4
    cases h4
theorem lk_bit0 : ∀ u, u < 4 → ¬ ((0 : Int32) &&& lk_bit u ≠ 0) := fun u _ z => z (by simp)
