/-! how high the tree can be: each level has a page -/
theorem lk_pigeon : ∀ (m n : Nat) (f : Nat → Nat), (∀ i, i < n → f i < m) → (∀ i j, i < n → j < n → f i = f j → i = j) → n ≤ m := by
  intro m
  induction m with
  | zero =>
    intro n f h1 h2
    cases n with
    | zero => exact Nat.le_refl _
    | succ n => exact absurd (h1 0 (by omega)) (by omega)
  | succ m ih =>
    intro n f h1 h2
    cases n with
    | zero => exact Nat.zero_le _
    | succ n =>
      have key : n ≤ m := by
        refine ih n (fun i => if f i = m then f n else f i) (fun i hi => ?_) (fun i j hi hj e => ?_)
        · have a := h1 i (by omega)
          have b := h1 n (by omega)
          by_cases c : f i = m
          · have d : f n ≠ m := fun z => by
              have := h2 i n (by omega) (by omega) (by omega)
              omega
            simp only [c, if_true]
            omega
          · simp only [c, if_false]
            omega
        · by_cases c : f i = m <;> by_cases d : f j = m
          · exact h2 i j (by omega) (by omega) (by omega)
          · simp only [c, d, if_true, if_false] at e
            have := h2 n j (by omega) (by omega) e
            omega
          · simp only [c, d, if_true, if_false] at e
            have := h2 i n (by omega) (by omega) e
            omega
          · simp only [c, d, if_false] at e
            exact h2 i j (by omega) (by omega) e
      omega
section Tree3
variable {K L Lo Hi R N : Nat → Int} {F S : Nat → Nat → Int} {rt : Nat}
theorem lk_levels (h : lk_Tr K L Lo Hi R N F S rt) : ∀ d : Nat, (d : Int) ≤ L rt → ∃ p : Nat, p < 24 ∧ K p = 1 ∧ L p = L rt - d := by
  obtain ⟨h1, h2, h3, h4, h5, h6, h7⟩ := h
  intro d
  induction d with
  | zero => intro _; exact ⟨rt, h7.1, h7.2.1, by omega⟩
  | succ d ih =>
    intro g
    obtain ⟨p, p1, p2, p3⟩ := ih (by omega)
    have a := (h4 p p1 p2 (by omega)).1
    obtain ⟨c, c1, c2, c3, c4, c5⟩ := h5 p p1 p2 (by omega) 0 (by omega)
    exact ⟨c, c1, c3, by omega⟩
theorem lk_height (h : lk_Tr K L Lo Hi R N F S rt) : L rt ≤ 23 := by
  have hl := lk_levels h
  have h0 : 0 ≤ L rt := (h.1 rt h.2.2.2.2.2.2.1 h.2.2.2.2.2.2.2.1).1
  obtain ⟨n, hn⟩ : ∃ n : Nat, L rt = n := ⟨(L rt).toNat, by omega⟩
  have ex : ∀ d : Nat, ∃ p : Nat, d < n + 1 → p < 24 ∧ K p = 1 ∧ L p = L rt - d := by
    intro d
    by_cases g : d < n + 1
    · obtain ⟨p, hp⟩ := hl d (by omega)
      exact ⟨p, fun _ => hp⟩
    · exact ⟨0, fun z => absurd z g⟩
  have := lk_pigeon 24 (n + 1) (fun d => Classical.choose (ex d)) (fun i hi => (Classical.choose_spec (ex i) hi).1) (fun i j hi hj e => by
    have a := (Classical.choose_spec (ex i) hi).2.2
    have b := (Classical.choose_spec (ex j) hj).2.2
    have e' : Classical.choose (ex i) = Classical.choose (ex j) := e
    rw [e'] at a
    omega)
  omega
theorem lk_height_free (h : lk_Tr K L Lo Hi R N F S rt) {q : Nat} (hq : q < 24) (kq : K q ≠ 1) : L rt ≤ 22 := by
  have hl := lk_levels h
  have h0 : 0 ≤ L rt := (h.1 rt h.2.2.2.2.2.2.1 h.2.2.2.2.2.2.2.1).1
  obtain ⟨n, hn⟩ : ∃ n : Nat, L rt = n := ⟨(L rt).toNat, by omega⟩
  have ex : ∀ d : Nat, ∃ p : Nat, d < n + 1 → p < 24 ∧ K p = 1 ∧ L p = L rt - d := by
    intro d
    by_cases g : d < n + 1
    · obtain ⟨p, hp⟩ := hl d (by omega)
      exact ⟨p, fun _ => hp⟩
    · exact ⟨0, fun z => absurd z g⟩
  have sp : ∀ d : Nat, d < n + 1 → _ := fun d hd => Classical.choose_spec (ex d) hd
  have := lk_pigeon 24 (n + 2) (fun d => if d = n + 1 then q else Classical.choose (ex d)) (fun i hi => by
    by_cases c : i = n + 1
    · simp only [c, if_true]; exact hq
    · simp only [c, if_false]; exact (sp i (by omega)).1) (fun i j hi hj e => by
    by_cases c : i = n + 1 <;> by_cases d : j = n + 1
    · omega
    · simp only [c, d, if_true, if_false] at e
      exact absurd ((sp j (by omega)).2.1) (by rw [← e]; exact kq)
    · simp only [c, d, if_true, if_false] at e
      exact absurd ((sp i (by omega)).2.1) (by rw [e]; exact kq)
    · simp only [c, d, if_false] at e
      have a := (sp i (by omega)).2.2
      have b := (sp j (by omega)).2.2
      rw [e] at a
      omega)
  omega
end Tree3
