/-! what the invariant says of a node -/
theorem lk_Int32_nat {x : Int32} {b : Nat} (h0 : 0 ≤ x.toInt) (h1 : x.toInt ≤ (b : Int)) : ∃ v : Nat, v ≤ b ∧ x = nI v := by
  obtain ⟨j, hj, e⟩ := nI_of (x := x) (by rw [Int32.lt_iff_toInt_lt]; exact Int.not_lt.mpr h0)
  refine ⟨j, ?_, e⟩
  rw [e, nI_toInt hj] at h1
  omega
theorem lk_lvl {M : lk_M} {rt p : Nat} (h : lk_TR M rt) (hp : p < 24) (k : M 0 p = 1) : ∃ v, v ≤ 23 ∧ M 1 p = nI v := by
  have h1 : lk_T1 (lk_zi M 0) (lk_zi M 1) (lk_zi M 2) (lk_zi M 3) (lk_zi M 4) (lk_zi M 5) rt := h.1
  obtain ⟨a, b, -⟩ := h1 p hp (lk_z1.mpr k)
  exact lk_Int32_nat a (Int.le_trans b (lk_height h))
theorem lk_rightp {M : lk_M} {rt p : Nat} {k : Int32} (h : lk_TR M rt) (hp : p < 24) (kp : M 0 p = 1) (hk : k.toInt ≤ 999) (hlt : M 3 p < k) : ∃ r, r < 24 ∧ M 4 p = nI r ∧ M 0 r = 1 ∧ M 1 r = M 1 p := by
  have h1 : lk_T1 (lk_zi M 0) (lk_zi M 1) (lk_zi M 2) (lk_zi M 3) (lk_zi M 4) (lk_zi M 5) rt := h.1
  have h2 : lk_T2 (lk_zi M 0) (lk_zi M 1) (lk_zi M 2) (lk_zi M 3) (lk_zi M 4) := h.2.1
  obtain ⟨-, -, -, -, -, -, -, hr⟩ := h1 p hp (lk_z1.mpr kp)
  rw [Int32.lt_iff_toInt_lt] at hlt
  have hne : lk_zi M 4 p ≠ -1 := fun z => by
    have := hr z
    have e : (M 3 p).toInt = 999 := this
    omega
  obtain ⟨r, hr1, hr2, hr3, hr4, -⟩ := h2 p hp (lk_z1.mpr kp) hne
  exact ⟨r, hr1, (lk_z _ r (by omega)).mp hr2, lk_z1.mp hr3, Int32.toInt_inj.mp hr4⟩
theorem lk_atlt {M : lk_M} {rt p n : Nat} {k : Int32} (h : lk_TR M rt) (hp : p < 24) (kp : M 0 p = 1) (hn : n ≤ 4) (h5 : M 5 p = nI n) (hl : 0 < (M 1 p).toInt) (hle : ¬ M 3 p < k) : lk_at M p n k < n := by
  have h4 : lk_T4 (lk_zi M 0) (lk_zi M 1) (lk_zi M 3) (lk_zi M 5) (lk_zf M 7) := h.2.2.2.1
  obtain ⟨a, b⟩ := h4 p hp (lk_z1.mpr kp) hl
  have e5 : lk_zi M 5 p = n := (lk_z _ n (by omega)).mpr h5
  rw [e5] at a b
  have hn1 : 1 ≤ n := by omega
  have hlast := b (n - 1) (by omega)
  have hF : (M 7 (5 * p + (n - 1))).toInt = (M 3 p).toInt := hlast
  by_cases c : lk_at M p n k < n
  · exact c
  · exfalso
    have hle2 := lk_at_le M p n k
    have e : lk_at M p n k = n := by omega
    have hlt := lk_fr_lt (M 7) k n (5 * p) (n - 1) (by show n - 1 < lk_at M p n k; omega)
    rw [Int32.lt_iff_toInt_lt, hF] at hlt
    exact hle (Int32.lt_iff_toInt_lt.mpr hlt)
theorem lk_child {M : lk_M} {rt p n i : Nat} (h : lk_TR M rt) (hp : p < 24) (kp : M 0 p = 1) (hn : n ≤ 4) (h5 : M 5 p = nI n) (hl : 0 < (M 1 p).toInt) (hi : i < n) : ∃ c, c < 24 ∧ M 8 (5 * p + i) = nI c ∧ M 0 c = 1 ∧ (M 1 c).toInt + 1 = (M 1 p).toInt := by
  have hh : lk_T5 (lk_zi M 0) (lk_zi M 1) (lk_zi M 2) (lk_zi M 5) (lk_zf M 7) (lk_zf M 8) := h.2.2.2.2.1
  have e5 : lk_zi M 5 p = n := (lk_z _ n (by omega)).mpr h5
  obtain ⟨c, hc, e1, e2, e3, -⟩ := hh p hp (lk_z1.mpr kp) hl i (by rw [e5]; omega)
  exact ⟨c, hc, (lk_z _ c (by omega)).mp e1, lk_z1.mp e2, e3⟩
