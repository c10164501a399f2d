/-! two neighbours: what their entries come to -/
theorem lk_ins_g {M : lk_M} {p j n x i f y : Nat} (hf : f = 7 ∨ f = 8) (hn : n ≤ 4) (hj : j ≤ n) (hi : i < 5) : lk_ins M p j n (M 7 y) (M 8 y) f (5 * x + i) = if x = p then (if i < j then M f (5 * p + i) else if i = j then M f y else if i ≤ n then M f (5 * p + (i - 1)) else M f (5 * p + i)) else M f (5 * x + i) := by
  rcases hf with e | e
  · subst e; exact lk_ins_7 hn hj hi
  · subst e; exact lk_ins_8 hn hj hi
theorem lk_del_g {M : lk_M} {p j n x i f : Nat} (hf : f = 7 ∨ f = 8) (hn : n ≤ 5) (hi : i < 5) : lk_del M p j n f (5 * x + i) = if x = p then (if i < j then M f (5 * p + i) else if i < n - 1 then M f (5 * p + (i + 1)) else M f (5 * p + i)) else M f (5 * x + i) := by
  rcases hf with e | e
  · subst e; exact lk_del_7 hn hi
  · subst e; exact lk_del_8 hn hi
theorem lk_apL_at {M : lk_M} {a b na f : Nat} (hf : f = 7 ∨ f = 8) (hab : a ≠ b) : ∀ j x i : Nat, na + j ≤ 5 → i < 5 → lk_apL M a b na j f (5 * x + i) = if x = a then (if i < na then M f (5 * a + i) else if i < na + j then M f (5 * b + (i - na)) else M f (5 * a + i)) else M f (5 * x + i) := by
  intro j
  induction j with
  | zero =>
    intro x i h hi
    show M f (5 * x + i) = _
    by_cases e : x = a
    · subst e
      rw [if_pos rfl]
      by_cases c : i < na
      · rw [if_pos c]
      · rw [if_neg c, if_neg (by omega)]
    · rw [if_neg e]
  | succ j ih =>
    intro x i h hi
    show lk_ins (lk_apL M a b na j) a (na + j) (na + j) (lk_apL M a b na j 7 (5 * b + j)) (lk_apL M a b na j 8 (5 * b + j)) f (5 * x + i) = _
    rw [lk_ins_g hf (by omega) (Nat.le_refl _) hi]
    by_cases e : x = a
    · subst e
      rw [if_pos rfl, if_pos rfl]
      by_cases c1 : i < na
      · rw [if_pos (by omega), if_pos c1, ih x i (by omega) hi, if_pos rfl, if_pos c1]
      · rw [if_neg c1]
        by_cases c2 : i < na + j
        · rw [if_pos c2, if_pos (by omega), ih x i (by omega) hi, if_pos rfl, if_neg c1, if_pos c2]
        · rw [if_neg c2]
          by_cases c3 : i = na + j
          · rw [if_pos c3, if_pos (by omega), ih b j (by omega) (by omega), if_neg (Ne.symm hab)]
            congr 1
            omega
          · rw [if_neg c3, if_neg (by omega), if_neg (by omega), ih x i (by omega) hi, if_pos rfl, if_neg c1, if_neg c2]
    · rw [if_neg e, if_neg e, ih x i (by omega) hi, if_neg e]
theorem lk_mvF_at {a b f : Nat} (hf : f = 7 ∨ f = 8) (hab : a ≠ b) : ∀ (r na nb : Nat) (σ : lk_M), r ≤ nb → na + r ≤ 5 → nb ≤ 5 → (∀ i, i < na + r → lk_mvF a b r na nb σ f (5 * a + i) = if i < na then σ f (5 * a + i) else σ f (5 * b + (i - na))) ∧ (∀ i, i < nb - r → lk_mvF a b r na nb σ f (5 * b + i) = σ f (5 * b + (i + r))) ∧ (∀ x i, x ≠ a → x ≠ b → i < 5 → lk_mvF a b r na nb σ f (5 * x + i) = σ f (5 * x + i)) := by
  intro r
  induction r with
  | zero =>
    intro na nb σ _ _ _
    refine ⟨fun i hi => ?_, fun i hi => rfl, fun x i _ _ _ => rfl⟩
    rw [if_pos (by omega)]; rfl
  | succ r ih =>
    intro na nb σ h1 h2 h3
    obtain ⟨i1, i2, i3⟩ := ih (na + 1) (nb - 1) (lk_del (lk_ins σ a na na (σ 7 (5 * b)) (σ 8 (5 * b))) b 0 nb) (by omega) (by omega) (by omega)
    have sa : ∀ i, i < 5 → lk_del (lk_ins σ a na na (σ 7 (5 * b)) (σ 8 (5 * b))) b 0 nb f (5 * a + i) = if i = na then σ f (5 * b) else σ f (5 * a + i) := fun i hi => by
      rw [lk_del_g hf h3 hi, if_neg hab, lk_ins_g hf (by omega) (Nat.le_refl _) hi, if_pos rfl]
      by_cases c : i = na
      · rw [if_neg (by omega), if_pos c, if_pos c]
      · rw [if_neg c, if_neg c]
        by_cases c2 : i < na
        · rw [if_pos c2]
        · rw [if_neg c2, if_neg (by omega)]
    have sb : ∀ i, i < nb - 1 → lk_del (lk_ins σ a na na (σ 7 (5 * b)) (σ 8 (5 * b))) b 0 nb f (5 * b + i) = σ f (5 * b + (i + 1)) := fun i hi => by
      rw [lk_del_g hf h3 (by omega), if_pos rfl, if_neg (by omega), if_pos hi, lk_ins_g hf (by omega) (Nat.le_refl _) (by omega), if_neg (Ne.symm hab)]
    have so : ∀ x i, x ≠ a → x ≠ b → i < 5 → lk_del (lk_ins σ a na na (σ 7 (5 * b)) (σ 8 (5 * b))) b 0 nb f (5 * x + i) = σ f (5 * x + i) := fun x i ha hb hi => by
      rw [lk_del_g hf h3 hi, if_neg hb, lk_ins_g hf (by omega) (Nat.le_refl _) hi, if_neg ha]
    refine ⟨fun i hi => ?_, fun i hi => ?_, fun x i ha hb hi => ?_⟩
    · show lk_mvF a b r (na + 1) (nb - 1) _ f (5 * a + i) = _
      rw [i1 i (by omega)]
      by_cases c : i < na + 1
      · rw [if_pos c, sa i (by omega)]
        by_cases c2 : i = na
        · rw [if_pos c2, if_neg (by omega)]
          congr 1
          omega
        · rw [if_neg c2, if_pos (by omega)]
      · rw [if_neg c, if_neg (by omega), sb _ (by omega)]
        congr 1
        omega
    · show lk_mvF a b r (na + 1) (nb - 1) _ f (5 * b + i) = _
      rw [i2 i (by omega), sb _ (by omega)]
      congr 1
    · show lk_mvF a b r (na + 1) (nb - 1) _ f (5 * x + i) = _
      rw [i3 x i ha hb hi, so x i ha hb hi]
theorem lk_mvL_at {a b f : Nat} (hf : f = 7 ∨ f = 8) (hab : a ≠ b) : ∀ (r na nb : Nat) (σ : lk_M), r ≤ na → nb + r ≤ 5 → na ≤ 5 → (∀ i, i < na - r → lk_mvL a b r na nb σ f (5 * a + i) = σ f (5 * a + i)) ∧ (∀ i, i < nb + r → lk_mvL a b r na nb σ f (5 * b + i) = if i < r then σ f (5 * a + (na - r + i)) else σ f (5 * b + (i - r))) ∧ (∀ x i, x ≠ a → x ≠ b → i < 5 → lk_mvL a b r na nb σ f (5 * x + i) = σ f (5 * x + i)) := by
  intro r
  induction r with
  | zero =>
    intro na nb σ _ _ _
    refine ⟨fun i hi => rfl, fun i hi => ?_, fun x i _ _ _ => rfl⟩
    rw [if_neg (by omega)]; rfl
  | succ r ih =>
    intro na nb σ h1 h2 h3
    have hf5 : f ≠ 5 := by omega
    obtain ⟨i1, i2, i3⟩ := ih (na - 1) (nb + 1) (lk_st (lk_ins σ b 0 nb (σ 7 (5 * a + na - 1)) (σ 8 (5 * a + na - 1))) 5 a (nI (na - 1))) (by omega) (by omega) (by omega)
    have so : ∀ x i, x ≠ b → i < 5 → lk_st (lk_ins σ b 0 nb (σ 7 (5 * a + na - 1)) (σ 8 (5 * a + na - 1))) 5 a (nI (na - 1)) f (5 * x + i) = σ f (5 * x + i) := fun x i hb hi => by
      rw [lk_st_f hf5, lk_ins_g hf (by omega) (Nat.zero_le _) hi, if_neg hb]
    have sb : ∀ i, i ≤ nb → lk_st (lk_ins σ b 0 nb (σ 7 (5 * a + na - 1)) (σ 8 (5 * a + na - 1))) 5 a (nI (na - 1)) f (5 * b + i) = if i = 0 then σ f (5 * a + na - 1) else σ f (5 * b + (i - 1)) := fun i hi => by
      rw [lk_st_f hf5, lk_ins_g hf (by omega) (Nat.zero_le _) (by omega), if_pos rfl, if_neg (by omega)]
      by_cases c : i = 0
      · rw [if_pos c, if_pos c]
      · rw [if_neg c, if_neg c, if_pos hi]
    refine ⟨fun i hi => ?_, fun i hi => ?_, fun x i ha hb hi => ?_⟩
    · show lk_mvL a b r (na - 1) (nb + 1) _ f (5 * a + i) = _
      rw [i1 i (by omega), so a i hab (by omega)]
    · show lk_mvL a b r (na - 1) (nb + 1) _ f (5 * b + i) = _
      rw [i2 i (by omega)]
      by_cases c : i < r
      · rw [if_pos c, if_pos (by omega), so a _ hab (by omega)]
        congr 1
        omega
      · rw [if_neg c, sb _ (by omega)]
        by_cases c2 : i = r
        · rw [if_pos (by omega), if_pos (by omega)]
          congr 1
          omega
        · rw [if_neg (by omega), if_neg (by omega)]
          congr 1
    · show lk_mvL a b r (na - 1) (nb + 1) _ f (5 * x + i) = _
      rw [i3 x i ha hb hi, so x i hb hi]
/-- the entries of the two, one behind the other -/
def lk_ct (M : lk_M) (f a b na i : Nat) : Int32 := if i < na then M f (5 * a + i) else M f (5 * b + (i - na))
theorem lk_ct_z {M : lk_M} {f a b na i : Nat} : (lk_ct M f a b na i).toInt = lk_cat (lk_zf M f) a b na i := by
  unfold lk_ct lk_cat
  by_cases c : i < na
  · rw [if_pos c, if_pos c]; rfl
  · rw [if_neg c, if_neg c]; rfl
theorem lk_shr_at {M : lk_M} {a b na nb f : Nat} (hf : f = 7 ∨ f = 8) (hab : a ≠ b) (hna : na ≤ 4) (hnb : nb ≤ 4) (h4 : 4 < na + nb) : (∀ i, i < (na + nb + 1) / 2 → lk_shr M a b na nb f (5 * a + i) = lk_ct M f a b na i) ∧ (∀ i, i < na + nb - (na + nb + 1) / 2 → lk_shr M a b na nb f (5 * b + i) = lk_ct M f a b na ((na + nb + 1) / 2 + i)) ∧ (∀ x i, x ≠ a → x ≠ b → i < 5 → lk_shr M a b na nb f (5 * x + i) = M f (5 * x + i)) := by
  have hh : ∃ half, half = (na + nb + 1) / 2 := ⟨_, rfl⟩
  obtain ⟨half, eh⟩ := hh
  unfold lk_shr lk_ct
  rw [← eh]
  by_cases c : na ≤ half
  · have e2 : na - half = 0 := by omega
    rw [e2]
    obtain ⟨i1, i2, i3⟩ := lk_mvF_at hf hab (half - na) na nb M (by omega) (by omega) (by omega)
    refine ⟨fun i hi => ?_, fun i hi => ?_, fun x i ha hb hi => i3 x i ha hb hi⟩
    · exact i1 i (by omega)
    · rw [if_neg (by omega)]
      refine (i2 i (by omega)).trans ?_
      congr 1
      omega
  · have e1 : half - na = 0 := by omega
    rw [e1]
    obtain ⟨i1, i2, i3⟩ := lk_mvL_at hf hab (na - half) (na + 0) (nb - 0) M (by omega) (by omega) (by omega)
    refine ⟨fun i hi => ?_, fun i hi => ?_, fun x i ha hb hi => i3 x i ha hb hi⟩
    · rw [if_pos (by omega)]
      exact i1 i (by omega)
    · refine (i2 i (by omega)).trans ?_
      by_cases c2 : i < na - half
      · rw [if_pos c2, if_pos (by omega)]
        congr 1
        omega
      · rw [if_neg c2, if_neg (by omega)]
        congr 1
        omega
theorem lk_shr_5 {M : lk_M} {a b na nb : Nat} (hab : a ≠ b) (hna : na ≤ 4) (hnb : nb ≤ 4) (h4 : 4 < na + nb) (ha : M 5 a = nI na) (hb : M 5 b = nI nb) : lk_shr M a b na nb 5 a = nI ((na + nb + 1) / 2) ∧ lk_shr M a b na nb 5 b = nI (na + nb - (na + nb + 1) / 2) := by
  unfold lk_shr
  obtain ⟨f1, f2⟩ := lk_mvF_5 a b hab ((na + nb + 1) / 2 - na) na nb M (by omega) ha hb
  obtain ⟨g1, g2⟩ := lk_mvL_5 a b hab (na - (na + nb + 1) / 2) (na + ((na + nb + 1) / 2 - na)) (nb - ((na + nb + 1) / 2 - na)) _ (by omega) f1 f2
  rw [g1, g2]
  exact ⟨congrArg nI (by omega), congrArg nI (by omega)⟩
/-! the awaited tasks of a page that dies -/
def lk_mb (b : Nat → Bool) (t0 : Nat) : Nat → Int32
  | 0 => 0
  | t + 1 => if b t && !decide (t = t0) then lk_mb b t0 t ||| lk_bit t else lk_mb b t0 t
theorem lk_mask_mb (P : Nat → Prop) (b : Nat → Bool) (h : ∀ u, b u = true ↔ P u) (t0 : Nat) : ∀ n, lk_mask P t0 n = lk_mb b t0 n := by
  intro n
  induction n with
  | zero => rfl
  | succ n ih =>
    unfold lk_mask lk_mb
    rw [ih]
    by_cases c : P n ∧ n ≠ t0
    · rw [if_pos c, if_pos]
      rw [Bool.and_eq_true]
      exact ⟨(h n).mpr c.1, by rw [decide_eq_false c.2]; rfl⟩
    · rw [if_neg c, if_neg]
      rw [Bool.and_eq_true]
      intro z
      refine c ⟨(h n).mp z.1, fun e => ?_⟩
      rw [decide_eq_true e] at z
      exact absurd z.2 (by decide)
def lk_b4 (x : Nat) (u : Nat) : Bool := x.testBit u
def lk_mq (x t : Nat) : Bool := decide ((lk_mb (lk_b4 x) t 4).toNatClampNeg < 16) && (decide (lk_mb (lk_b4 x) t 4 = nI (lk_mb (lk_b4 x) t 4).toNatClampNeg) && (List.range 4).all (fun u => decide (u = t) || (!(lk_b4 x u) || !decide (lk_mb (lk_b4 x) t 4 &&& lk_bit u = 0))))
theorem lk_mq_all : (List.range 16).all (fun x => (List.range 4).all (fun t => lk_mq x t)) = true := by decide +kernel
theorem lk_mb_4 {b c : Nat → Bool} (h : ∀ u, u < 4 → b u = c u) (t : Nat) : lk_mb b t 4 = lk_mb c t 4 := by
  unfold lk_mb lk_mb lk_mb lk_mb lk_mb
  rw [h 0 (by decide), h 1 (by decide), h 2 (by decide), h 3 (by decide)]
theorem lk_b4_of (b : Nat → Bool) : ∃ x, x < 16 ∧ ∀ u, u < 4 → b u = lk_b4 x u := by
  have key : ∀ b0 b1 b2 b3 : Bool, ∃ x, x < 16 ∧ lk_b4 x 0 = b0 ∧ lk_b4 x 1 = b1 ∧ lk_b4 x 2 = b2 ∧ lk_b4 x 3 = b3 := by
    intro b0 b1 b2 b3
    refine ⟨(if b0 then 1 else 0) + (if b1 then 2 else 0) + (if b2 then 4 else 0) + (if b3 then 8 else 0), ?_⟩
    cases b0 <;> cases b1 <;> cases b2 <;> cases b3 <;> decide
  obtain ⟨x, hx, e0, e1, e2, e3⟩ := key (b 0) (b 1) (b 2) (b 3)
  refine ⟨x, hx, fun u hu => ?_⟩
  have : u = 0 ∨ u = 1 ∨ u = 2 ∨ u = 3 := by omega
  rcases this with e | e | e | e <;> subst e
  · exact e0.symm
  · exact e1.symm
  · exact e2.symm
  · exact e3.symm
theorem lk_mask_4 (P : Nat → Prop) (t : Nat) (ht : t < 4) : ∃ m, m < 16 ∧ lk_mask P t 4 = nI m ∧ ∀ u, u < 4 → u ≠ t → P u → lk_mask P t 4 &&& lk_bit u ≠ 0 := by
  have hb : ∃ b : Nat → Bool, ∀ u, b u = true ↔ P u := ⟨fun u => @decide (P u) (Classical.propDecidable _), fun u => by
    constructor
    · intro h; exact @of_decide_eq_true _ (Classical.propDecidable _) h
    · intro h; exact @decide_eq_true _ (Classical.propDecidable _) h⟩
  obtain ⟨b, hb⟩ := hb
  obtain ⟨x, hx, ex⟩ := lk_b4_of b
  have e : lk_mask P t 4 = lk_mb (lk_b4 x) t 4 := (lk_mask_mb P b hb t 4).trans (lk_mb_4 ex t)
  have h := List.all_eq_true.mp (List.all_eq_true.mp lk_mq_all x (List.mem_range.mpr hx)) t (List.mem_range.mpr ht)
  unfold lk_mq at h
  rw [Bool.and_eq_true, Bool.and_eq_true] at h
  obtain ⟨h1, h2, h3⟩ := h
  refine ⟨_, of_decide_eq_true h1, e.trans (of_decide_eq_true h2), fun u hu hn hp => ?_⟩
  rw [e]
  have h4 := List.all_eq_true.mp h3 u (List.mem_range.mpr hu)
  rw [Bool.or_eq_true, Bool.or_eq_true] at h4
  rcases h4 with h4 | h4 | h4
  · exact absurd (of_decide_eq_true h4) hn
  · rw [← ex u hu, (hb u).mpr hp] at h4
    exact absurd h4 (by decide)
  · intro z
    rw [decide_eq_true z] at h4
    cases h4
theorem lk_die_at (σ : lk_M) (p t n f i : Nat) : mm_die σ p t n f i = if f = 0 ∧ i = p then (if lk_mask (fun u => σ 11 u ≠ 0) t 4 = 0 then 0 else 2) else if f = 9 ∧ i = p then lk_mask (fun u => σ 11 u ≠ 0) t 4 else if f = 10 then (lk_cmp (σ 10) (nI p) n).1 i else if f = 24 ∧ i = 1 then nI (lk_cmp (σ 10) (nI p) n).2 else σ f i := by
  have e0 : lk_st (lk_lq (lk_st σ 0 p 2) (nI p) n) 9 p (lk_mask (fun u => σ 11 u ≠ 0) t 4) 0 p = 2 := by
    rw [lk_st_f (by decide), lk_lq_f (by decide) (by decide), lk_st_s]
  have e9 : lk_st (lk_lq (lk_st σ 0 p 2) (nI p) n) 9 p (lk_mask (fun u => σ 11 u ≠ 0) t 4) 9 p = lk_mask (fun u => σ 11 u ≠ 0) t 4 := lk_st_s
  have in_ : lk_st (lk_lq (lk_st σ 0 p 2) (nI p) n) 9 p (lk_mask (fun u => σ 11 u ≠ 0) t 4) f i = if f = 0 ∧ i = p then 2 else if f = 9 ∧ i = p then lk_mask (fun u => σ 11 u ≠ 0) t 4 else if f = 10 then (lk_cmp (σ 10) (nI p) n).1 i else if f = 24 ∧ i = 1 then nI (lk_cmp (σ 10) (nI p) n).2 else σ f i := by
    have e10 : lk_st σ 0 p 2 10 = σ 10 := lk_st_fn (by decide)
    rw [lk_st_eq]
    by_cases c9 : f = 9 ∧ i = p
    · rw [if_pos c9, if_neg (by omega), if_pos c9]
    · rw [if_neg c9, if_neg c9]
      by_cases c0 : f = 0 ∧ i = p
      · rw [if_pos c0, c0.1, c0.2, lk_lq_f (by decide) (by decide), lk_st_s]
      · rw [if_neg c0]
        unfold lk_lq
        rw [e10]
        simp only [lk_up_eq]
        by_cases c10 : f = 10
        · subst c10; simp
        · rw [if_neg c10, if_neg c10]
          by_cases c24 : f = 24
          · subst c24
            rw [if_pos rfl]
            unfold upd
            by_cases c1 : i = 1
            · simp [c1]
            · simp only [c1, if_false, and_false]
              exact lk_st_f (by decide)
          · rw [if_neg c24, if_neg (by omega), lk_st_eq, if_neg c0]
  unfold mm_die mm_rel
  rw [e0, e9]
  by_cases c : lk_mask (fun u => σ 11 u ≠ 0) t 4 = 0
  · rw [if_pos ⟨rfl, c⟩, if_pos c, lk_st_eq]
    by_cases c0 : f = 0 ∧ i = p
    · rw [if_pos c0, if_pos c0]
    · rw [if_neg c0, if_neg c0, in_, if_neg c0]
  · rw [if_neg (fun z => c z.2), if_neg c, in_]
/-- what the queue keeps -/
theorem lk_cmp_in (f : Nat → Int32) (x : Int32) : ∀ n, (∀ i, n ≤ i → (lk_cmp f x n).1 i = f i) ∧ ∀ i, i < (lk_cmp f x n).2 → ∃ j, j < n ∧ (lk_cmp f x n).1 i = f j ∧ f j ≠ x := by
  intro n
  induction n with
  | zero => exact ⟨fun i _ => rfl, fun i hi => absurd hi (Nat.not_lt_zero _)⟩
  | succ n ih =>
    obtain ⟨a, b⟩ := ih
    have le := lk_cmp_le f x n
    rw [lk_cmp_s]
    have an : (lk_cmp f x n).1 n = f n := a n (Nat.le_refl _)
    by_cases c : (lk_cmp f x n).1 n = x
    · rw [if_pos c]
      refine ⟨fun i hi => a i (by omega), fun i hi => ?_⟩
      obtain ⟨j, hj, e1, e2⟩ := b i hi
      exact ⟨j, by omega, e1, e2⟩
    · rw [if_neg c]
      refine ⟨fun i hi => ?_, fun i hi => ?_⟩
      · show upd _ _ _ i = _
        unfold upd
        rw [if_neg (by omega)]
        exact a i (by omega)
      · have hi : i < (lk_cmp f x n).2 + 1 := hi
        show ∃ j, j < n + 1 ∧ upd _ _ _ i = _ ∧ _
        unfold upd
        by_cases e : i = (lk_cmp f x n).2
        · rw [if_pos e]
          exact ⟨n, by omega, an, by rw [← an]; exact c⟩
        · rw [if_neg e]
          obtain ⟨j, hj, e1, e2⟩ := b i (by omega)
          exact ⟨j, by omega, e1, e2⟩
