/-! the tree by its numbers: kind, level, low, high, right, count (of a page), first and second (of a page's entry), and the root -/
def lk_T1 (K L Lo Hi R N : Nat → Int) (rt : Nat) : Prop := ∀ p, p < 24 → K p = 1 → 0 ≤ L p ∧ L p ≤ L rt ∧ -1 ≤ Lo p ∧ Lo p < Hi p ∧ Hi p ≤ 999 ∧ 0 ≤ N p ∧ N p ≤ 5 ∧ (R p = -1 → Hi p = 999)
def lk_T2 (K L Lo Hi R : Nat → Int) : Prop := ∀ p, p < 24 → K p = 1 → R p ≠ -1 → ∃ r : Nat, r < 24 ∧ R p = r ∧ K r = 1 ∧ L r = L p ∧ Lo r = Hi p
def lk_T3 (K Lo Hi N : Nat → Int) (F : Nat → Nat → Int) : Prop := ∀ p, p < 24 → K p = 1 → ∀ i : Nat, (i : Int) < N p → Lo p < F p i ∧ F p i ≤ Hi p ∧ ((i : Int) + 1 < N p → F p i < F p (i + 1))
def lk_T4 (K L Hi N : Nat → Int) (F : Nat → Nat → Int) : Prop := ∀ p, p < 24 → K p = 1 → 0 < L p → 1 ≤ N p ∧ ∀ i : Nat, (i : Int) + 1 = N p → F p i = Hi p
/-- the low that the child of entry i must have -/
def lk_lo (Lo : Nat → Int) (F : Nat → Nat → Int) (p i : Nat) : Int := if i = 0 then Lo p else F p (i - 1)
def lk_T5 (K L Lo N : Nat → Int) (F S : Nat → Nat → Int) : Prop := ∀ p, p < 24 → K p = 1 → 0 < L p → ∀ i : Nat, (i : Int) < N p → ∃ c : Nat, c < 24 ∧ S p i = c ∧ K c = 1 ∧ L c + 1 = L p ∧ Lo c = lk_lo Lo F p i
def lk_T6 (K L Lo Hi : Nat → Int) : Prop := ∀ p q, p < 24 → q < 24 → K p = 1 → K q = 1 → L p = L q → p ≠ q → Hi p ≤ Lo q ∨ Hi q ≤ Lo p
def lk_T7 (K Lo : Nat → Int) (rt : Nat) : Prop := rt < 24 ∧ K rt = 1 ∧ Lo rt = -1
def lk_Tr (K L Lo Hi R N : Nat → Int) (F S : Nat → Nat → Int) (rt : Nat) : Prop :=
  lk_T1 K L Lo Hi R N rt ∧ lk_T2 K L Lo Hi R ∧ lk_T3 K Lo Hi N F ∧ lk_T4 K L Hi N F ∧ lk_T5 K L Lo N F S ∧ lk_T6 K L Lo Hi ∧ lk_T7 K Lo rt
section Tree
variable {K L Lo Hi R N K' L' Lo' Hi' R' N' : Nat → Int} {F S F' S' : Nat → Nat → Int} {rt : Nat}
theorem lk_lo_0 {p : Nat} : lk_lo Lo F p 0 = Lo p := rfl
theorem lk_lo_s {p i : Nat} : lk_lo Lo F p (i + 1) = F p i := rfl
theorem lk_lo_pos {p i : Nat} (h : 0 < i) : lk_lo Lo F p i = F p (i - 1) := by
  unfold lk_lo
  rw [if_neg (by omega)]
/-- an entry's bound is below every later one's -/
theorem lk_inc (h3 : lk_T3 K Lo Hi N F) {p : Nat} (hp : p < 24) (hk : K p = 1) (i : Nat) : ∀ d : Nat, (i : Int) + d + 1 < N p → F p i < F p (i + d + 1) := by
  intro d
  induction d with
  | zero => intro h; exact (h3 p hp hk i (by omega)).2.2 (by omega)
  | succ d ih =>
    intro h
    have a := ih (by omega)
    have b := (h3 p hp hk (i + d + 1) (by omega)).2.2 (by omega)
    have e : i + (d + 1) + 1 = i + d + 1 + 1 := by omega
    rw [e]
    omega
theorem lk_incl (h3 : lk_T3 K Lo Hi N F) {p : Nat} (hp : p < 24) (hk : K p = 1) {i j : Nat} (h : i < j) (hj : (j : Int) < N p) : F p i < F p j := by
  obtain ⟨d, rfl⟩ : ∃ d, j = i + d + 1 := ⟨j - i - 1, by omega⟩
  exact lk_inc h3 hp hk i d (by omega)
theorem lk_incle (h3 : lk_T3 K Lo Hi N F) {p : Nat} (hp : p < 24) (hk : K p = 1) {i j : Nat} (h : i ≤ j) (hj : (j : Int) < N p) : F p i ≤ F p j := by
  by_cases e : i = j
  · subst e; exact Int.le_refl _
  · exact Int.le_of_lt (lk_incl h3 hp hk (by omega) hj)
/-- the low of an entry's child: within the node, below the entry's bound -/
theorem lk_lo_in (h3 : lk_T3 K Lo Hi N F) {p : Nat} (hp : p < 24) (hk : K p = 1) {i : Nat} (hi : (i : Int) < N p) : Lo p ≤ lk_lo Lo F p i ∧ lk_lo Lo F p i < F p i ∧ F p i ≤ Hi p := by
  have a := h3 p hp hk i hi
  cases i with
  | zero => rw [lk_lo_0]; omega
  | succ i =>
    rw [lk_lo_s]
    have b := h3 p hp hk i (by omega)
    have c := b.2.2 (by omega)
    omega
theorem lk_lo_mono (h3 : lk_T3 K Lo Hi N F) {p : Nat} (hp : p < 24) (hk : K p = 1) {i j : Nat} (h : i < j) (hj : (j : Int) < N p) : lk_lo Lo F p i < lk_lo Lo F p j := by
  have a := (lk_lo_in h3 hp hk (i := i) (by omega)).2.1
  rw [lk_lo_pos (i := j) (by omega)]
  have b := lk_incle h3 hp hk (i := i) (j := j - 1) (by omega) (by omega)
  omega
/-- a page is the child of one entry at most -/
theorem lk_uniq (h : lk_Tr K L Lo Hi R N F S rt) {p q i j : Nat} (hp : p < 24) (hq : q < 24) (kp : K p = 1) (kq : K q = 1) (lp : 0 < L p) (lq : 0 < L q) (hi : (i : Int) < N p) (hj : (j : Int) < N q) (e : S p i = S q j) : p = q ∧ i = j := by
  obtain ⟨h1, h2, h3, h4, h5, h6, h7⟩ := h
  obtain ⟨c, c1, c2, c3, c4, c5⟩ := h5 p hp kp lp i hi
  obtain ⟨d, d1, d2, d3, d4, d5⟩ := h5 q hq kq lq j hj
  have hcd : c = d := by omega
  subst hcd
  have a := lk_lo_in h3 hp kp hi
  have b := lk_lo_in h3 hq kq hj
  have hpq : p = q := by
    by_cases hne : p = q
    · exact hne
    · exfalso
      rcases h6 p q hp hq kp kq (by omega) hne with g | g <;> omega
  subst hpq
  refine ⟨rfl, ?_⟩
  by_cases hij : i = j
  · exact hij
  · exfalso
    rcases Nat.lt_or_gt_of_ne hij with g | g
    · have := lk_lo_mono h3 hp kp g hj; omega
    · have := lk_lo_mono h3 hp kp g hi; omega
/-- same level, same low: the same node; and the same high -/
theorem lk_samelo (h1 : lk_T1 K L Lo Hi R N rt) (h6 : lk_T6 K L Lo Hi) {p q : Nat} (hp : p < 24) (hq : q < 24) (kp : K p = 1) (kq : K q = 1) (e : L p = L q) (el : Lo p = Lo q) : p = q := by
  by_cases hne : p = q
  · exact hne
  · exfalso
    have a := h1 p hp kp
    have b := h1 q hq kq
    rcases h6 p q hp hq kp kq e hne with g | g <;> omega
theorem lk_samehi (h1 : lk_T1 K L Lo Hi R N rt) (h6 : lk_T6 K L Lo Hi) {p q : Nat} (hp : p < 24) (hq : q < 24) (kp : K p = 1) (kq : K q = 1) (e : L p = L q) (el : Hi p = Hi q) : p = q := by
  by_cases hne : p = q
  · exact hne
  · exfalso
    have a := h1 p hp kp
    have b := h1 q hq kq
    rcases h6 p q hp hq kp kq e hne with g | g <;> omega
/-- an entry comes into a leaf -/
theorem lk_tr_ins {p j : Nat} {k : Int} (h : lk_Tr K L Lo Hi R N F S rt) (hp : p < 24) (kp : K p = 1) (l0 : L p = 0) (n4 : N p ≤ 4) (hj : (j : Int) ≤ N p) (k1 : Lo p < k) (k2 : k ≤ Hi p) (lt : ∀ i : Nat, i < j → F p i < k) (gt : (j : Int) < N p → k < F p j)
    (eN : ∀ x, x < 24 → N' x = if x = p then N p + 1 else N x)
    (eF : ∀ x, x < 24 → K x = 1 → ∀ i : Nat, (i : Int) < N' x → F' x i = if x = p then (if i < j then F p i else if i = j then k else F p (i - 1)) else F x i)
    (eS : ∀ x, x < 24 → K x = 1 → x ≠ p → ∀ i : Nat, (i : Int) < N x → S' x i = S x i) : lk_Tr K L Lo Hi R N' F' S' rt := by
  obtain ⟨h1, h2, h3, h4, h5, h6, h7⟩ := h
  refine ⟨fun x hx kx => ?_, h2, fun x hx kx i hi => ?_, fun x hx kx lx => ?_, fun x hx kx lx i hi => ?_, h6, h7⟩
  · have a := h1 x hx kx
    rw [eN x hx]
    by_cases e : x = p
    · subst e; rw [if_pos rfl]; omega
    · rw [if_neg e]; exact a
  · by_cases e : x = p
    · subst e
      have hi' := hi
      rw [eN x hx, if_pos rfl] at hi'
      rw [eF x hx kx i hi, if_pos rfl]
      have hN : N' x = N x + 1 := by rw [eN x hx, if_pos rfl]
      have s1 : (i : Int) + 1 < N' x → F' x (i + 1) = if i + 1 < j then F x (i + 1) else if i + 1 = j then k else F x (i + 1 - 1) := fun g => by
        rw [eF x hx kx (i + 1) (by omega), if_pos rfl]
      by_cases c1 : i < j
      · rw [if_pos c1]
        have b := h3 x hx kx i (by omega)
        refine ⟨b.1, b.2.1, fun g => ?_⟩
        rw [s1 g]
        by_cases c2 : i + 1 < j
        · rw [if_pos c2]; exact b.2.2 (by omega)
        · rw [if_neg c2, if_pos (by omega)]; exact lt i c1
      · rw [if_neg c1]
        by_cases c2 : i = j
        · rw [if_pos c2]
          refine ⟨k1, k2, fun g => ?_⟩
          rw [s1 g, if_neg (by omega), if_neg (by omega)]
          subst c2
          exact gt (by omega)
        · rw [if_neg c2]
          have b := h3 x hx kx (i - 1) (by omega)
          refine ⟨b.1, b.2.1, fun g => ?_⟩
          rw [s1 g, if_neg (by omega), if_neg (by omega)]
          have b2 := b.2.2 (by omega)
          have e2 : i - 1 + 1 = i + 1 - 1 := by omega
          rw [e2] at b2
          exact b2
    · have hN : N' x = N x := by rw [eN x hx, if_neg e]
      rw [hN] at hi ⊢
      have b := h3 x hx kx i hi
      rw [eF x hx kx i (by omega), if_neg e]
      refine ⟨b.1, b.2.1, fun g => ?_⟩
      rw [eF x hx kx (i + 1) (by omega), if_neg e]
      exact b.2.2 g
  · have e : x ≠ p := fun e => by subst e; omega
    have hN : N' x = N x := by rw [eN x hx, if_neg e]
    obtain ⟨a, b⟩ := h4 x hx kx lx
    rw [hN]
    refine ⟨a, fun i g => ?_⟩
    rw [eF x hx kx i (by omega), if_neg e]
    exact b i g
  · have e : x ≠ p := fun e => by subst e; omega
    have hN : N' x = N x := by rw [eN x hx, if_neg e]
    obtain ⟨c, c1, c2, c3, c4, c5⟩ := h5 x hx kx lx i (by omega)
    refine ⟨c, c1, ?_, c3, c4, ?_⟩
    · rw [eS x hx kx e i (by omega)]; exact c2
    · rw [c5]
      cases i with
      | zero => rfl
      | succ i => rw [lk_lo_s, lk_lo_s, eF x hx kx i (by omega), if_neg e]
/-- an entry goes out of a leaf -/
theorem lk_tr_del {p j : Nat} (h : lk_Tr K L Lo Hi R N F S rt) (hp : p < 24) (kp : K p = 1) (l0 : L p = 0) (hj : (j : Int) < N p)
    (eN : ∀ x, x < 24 → N' x = if x = p then N p - 1 else N x)
    (eF : ∀ x, x < 24 → K x = 1 → ∀ i : Nat, (i : Int) < N' x → F' x i = if x = p then (if i < j then F p i else F p (i + 1)) else F x i)
    (eS : ∀ x, x < 24 → K x = 1 → x ≠ p → ∀ i : Nat, (i : Int) < N x → S' x i = S x i) : lk_Tr K L Lo Hi R N' F' S' rt := by
  obtain ⟨h1, h2, h3, h4, h5, h6, h7⟩ := h
  refine ⟨fun x hx kx => ?_, h2, fun x hx kx i hi => ?_, fun x hx kx lx => ?_, fun x hx kx lx i hi => ?_, h6, h7⟩
  · have a := h1 x hx kx
    rw [eN x hx]
    by_cases e : x = p
    · subst e; rw [if_pos rfl]; omega
    · rw [if_neg e]; exact a
  · by_cases e : x = p
    · subst e
      have hN : N' x = N x - 1 := by rw [eN x hx, if_pos rfl]
      rw [eF x hx kx i hi, if_pos rfl]
      have s1 : (i : Int) + 1 < N' x → F' x (i + 1) = if i + 1 < j then F x (i + 1) else F x (i + 1 + 1) := fun g => by
        rw [eF x hx kx (i + 1) (by omega), if_pos rfl]
      by_cases c1 : i < j
      · rw [if_pos c1]
        have b := h3 x hx kx i (by omega)
        refine ⟨b.1, b.2.1, fun g => ?_⟩
        rw [s1 g]
        by_cases c2 : i + 1 < j
        · rw [if_pos c2]; exact b.2.2 (by omega)
        · rw [if_neg c2]; exact lk_incl h3 hx kx (by omega) (by omega)
      · rw [if_neg c1]
        have b := h3 x hx kx (i + 1) (by omega)
        refine ⟨b.1, b.2.1, fun g => ?_⟩
        rw [s1 g, if_neg (by omega)]
        exact b.2.2 (by omega)
    · have hN : N' x = N x := by rw [eN x hx, if_neg e]
      rw [hN] at hi ⊢
      have b := h3 x hx kx i hi
      rw [eF x hx kx i (by omega), if_neg e]
      refine ⟨b.1, b.2.1, fun g => ?_⟩
      rw [eF x hx kx (i + 1) (by omega), if_neg e]
      exact b.2.2 g
  · have e : x ≠ p := fun e => by subst e; omega
    have hN : N' x = N x := by rw [eN x hx, if_neg e]
    obtain ⟨a, b⟩ := h4 x hx kx lx
    rw [hN]
    refine ⟨a, fun i g => ?_⟩
    rw [eF x hx kx i (by omega), if_neg e]
    exact b i g
  · have e : x ≠ p := fun e => by subst e; omega
    have hN : N' x = N x := by rw [eN x hx, if_neg e]
    obtain ⟨c, c1, c2, c3, c4, c5⟩ := h5 x hx kx lx i (by omega)
    refine ⟨c, c1, ?_, c3, c4, ?_⟩
    · rw [eS x hx kx e i (by omega)]; exact c2
    · rw [c5]
      cases i with
      | zero => rfl
      | succ i => rw [lk_lo_s, lk_lo_s, eF x hx kx i (by omega), if_neg e]
/-- a page is posted in a node -/
theorem lk_tr_post {p j q : Nat} {k : Int} (h : lk_Tr K L Lo Hi R N F S rt) (hp : p < 24) (kp : K p = 1) (lp : 0 < L p) (n4 : N p ≤ 4) (hj : (j : Int) < N p) (k1 : Lo p < k) (lt : ∀ i : Nat, i < j → F p i < k) (gt : k < F p j)
    (hq : q < 24) (kq : K q = 1) (lq : L q + 1 = L p) (loq : Lo q = k)
    (eN : ∀ x, x < 24 → N' x = if x = p then N p + 1 else N x)
    (eF : ∀ x, x < 24 → K x = 1 → ∀ i : Nat, (i : Int) < N' x → F' x i = if x = p then (if i < j then F p i else if i = j then k else F p (i - 1)) else F x i)
    (eS : ∀ x, x < 24 → K x = 1 → ∀ i : Nat, (i : Int) < N' x → S' x i = if x = p then (if i ≤ j then S p i else if i = j + 1 then (q : Int) else S p (i - 1)) else S x i) : lk_Tr K L Lo Hi R N' F' S' rt := by
  obtain ⟨h1, h2, h3, h4, h5, h6, h7⟩ := h
  have hNp : N' p = N p + 1 := by rw [eN p hp, if_pos rfl]
  have hNx : ∀ x, x < 24 → x ≠ p → N' x = N x := fun x hx e => by rw [eN x hx, if_neg e]
  refine ⟨fun x hx kx => ?_, h2, fun x hx kx i hi => ?_, fun x hx kx lx => ?_, fun x hx kx lx i hi => ?_, h6, h7⟩
  · have a := h1 x hx kx
    by_cases e : x = p
    · subst e; rw [hNp]; omega
    · rw [hNx x hx e]; exact a
  · by_cases e : x = p
    · subst e
      rw [hNp] at hi ⊢
      rw [eF x hx kx i (by omega), if_pos rfl]
      have s1 : (i : Int) + 1 < N x + 1 → F' x (i + 1) = if i + 1 < j then F x (i + 1) else if i + 1 = j then k else F x (i + 1 - 1) := fun g => by
        rw [eF x hx kx (i + 1) (by omega), if_pos rfl]
      have bj := h3 x hx kx j hj
      by_cases c1 : i < j
      · rw [if_pos c1]
        have b := h3 x hx kx i (by omega)
        refine ⟨b.1, b.2.1, fun g => ?_⟩
        rw [s1 g]
        by_cases c2 : i + 1 < j
        · rw [if_pos c2]; exact b.2.2 (by omega)
        · rw [if_neg c2, if_pos (by omega)]; exact lt i c1
      · rw [if_neg c1]
        by_cases c2 : i = j
        · rw [if_pos c2]
          refine ⟨k1, by omega, fun g => ?_⟩
          rw [s1 g, if_neg (by omega), if_neg (by omega)]
          subst c2
          exact gt
        · rw [if_neg c2]
          have b := h3 x hx kx (i - 1) (by omega)
          refine ⟨b.1, b.2.1, fun g => ?_⟩
          rw [s1 g, if_neg (by omega), if_neg (by omega)]
          have b2 := b.2.2 (by omega)
          have e2 : i - 1 + 1 = i + 1 - 1 := by omega
          rw [e2] at b2
          exact b2
    · have hN := hNx x hx e
      rw [hN] at hi ⊢
      have b := h3 x hx kx i hi
      rw [eF x hx kx i (by omega), if_neg e]
      refine ⟨b.1, b.2.1, fun g => ?_⟩
      rw [eF x hx kx (i + 1) (by omega), if_neg e]
      exact b.2.2 g
  · obtain ⟨a, b⟩ := h4 x hx kx lx
    by_cases e : x = p
    · subst e
      rw [hNp]
      refine ⟨by omega, fun i g => ?_⟩
      rw [eF x hx kx i (by omega), if_pos rfl, if_neg (by omega), if_neg (by omega)]
      exact b (i - 1) (by omega)
    · rw [hNx x hx e]
      refine ⟨a, fun i g => ?_⟩
      rw [eF x hx kx i (by rw [hNx x hx e]; omega), if_neg e]
      exact b i g
  · by_cases e : x = p
    · subst e
      rw [hNp] at hi
      rw [eS x hx kx i (by omega), if_pos rfl]
      have fl : ∀ y : Nat, y < j → F' x y = F x y := fun y hy => by rw [eF x hx kx y (by omega), if_pos rfl, if_pos hy]
      have fj : F' x j = k := by rw [eF x hx kx j (by omega), if_pos rfl, if_neg (by omega), if_pos rfl]
      by_cases c1 : i ≤ j
      · rw [if_pos c1]
        obtain ⟨c, c1, c2, c3, c4, c5⟩ := h5 x hx kx lx i (by omega)
        refine ⟨c, c1, c2, c3, c4, ?_⟩
        rw [c5]
        cases i with
        | zero => rfl
        | succ i => rw [lk_lo_s, lk_lo_s, fl i (by omega)]
      · rw [if_neg c1]
        by_cases c2 : i = j + 1
        · rw [if_pos c2]
          subst c2
          exact ⟨q, hq, rfl, kq, lq, by rw [lk_lo_s, fj]; exact loq⟩
        · rw [if_neg c2]
          obtain ⟨c, c1, c2, c3, c4, c5⟩ := h5 x hx kx lx (i - 1) (by omega)
          refine ⟨c, c1, c2, c3, c4, ?_⟩
          rw [c5, lk_lo_pos (by omega), lk_lo_pos (by omega), eF x hx kx (i - 1) (by omega), if_pos rfl, if_neg (by omega), if_neg (by omega)]
    · have hN := hNx x hx e
      rw [hN] at hi
      obtain ⟨c, c1, c2, c3, c4, c5⟩ := h5 x hx kx lx i hi
      refine ⟨c, c1, ?_, c3, c4, ?_⟩
      · rw [eS x hx kx i (by omega), if_neg e]; exact c2
      · rw [c5]
        cases i with
        | zero => rfl
        | succ i => rw [lk_lo_s, lk_lo_s, eF x hx kx i (by omega), if_neg e]
/-- a node of five entries splits -/
theorem lk_tr_split {p q : Nat} (h : lk_Tr K L Lo Hi R N F S rt) (hp : p < 24) (hq : q < 24) (kp : K p = 1) (kq : K q ≠ 1) (n5 : N p = 5)
    (eK : ∀ x, x < 24 → K' x = if x = q then 1 else K x) (eL : ∀ x, x < 24 → L' x = if x = q then L p else L x)
    (eLo : ∀ x, x < 24 → Lo' x = if x = q then F p 2 else Lo x) (eHi : ∀ x, x < 24 → Hi' x = if x = q then Hi p else if x = p then F p 2 else Hi x)
    (eR : ∀ x, x < 24 → R' x = if x = q then R p else if x = p then (q : Int) else R x) (eN : ∀ x, x < 24 → N' x = if x = q then 2 else if x = p then 3 else N x)
    (eF : ∀ x, x < 24 → K' x = 1 → ∀ i : Nat, (i : Int) < N' x → F' x i = if x = q then F p (i + 3) else F x i)
    (eS : ∀ x, x < 24 → K' x = 1 → ∀ i : Nat, (i : Int) < N' x → S' x i = if x = q then S p (i + 3) else S x i) : lk_Tr K' L' Lo' Hi' R' N' F' S' rt := by
  obtain ⟨h1, h2, h3, h4, h5, h6, h7⟩ := h
  have hpq : p ≠ q := fun e => kq (by rw [← e]; exact kp)
  have old : ∀ x, x < 24 → K' x = 1 → x ≠ q → K x = 1 := fun x hx kx e => by rw [eK x hx, if_neg e] at kx; exact kx
  have nq : ∀ x, K x = 1 → x ≠ q := fun x kx e => kq (by rw [← e]; exact kx)
  have b0 := h3 p hp kp 0 (by omega)
  have b1 := h3 p hp kp 1 (by omega)
  have b2 := h3 p hp kp 2 (by omega)
  have b3 := h3 p hp kp 3 (by omega)
  have b4 := h3 p hp kp 4 (by omega)
  have a := h1 p hp kp
  have g2 : F p 2 < F p 3 := b2.2.2 (by omega)
  have g3 : F p 3 < F p 4 := b3.2.2 (by omega)
  have g0 : F p 0 < F p 1 := b0.2.2 (by omega)
  have g1 : F p 1 < F p 2 := b1.2.2 (by omega)
  have ert : rt ≠ q := nq rt h7.2.1
  have eLrt : L' rt = L rt := by rw [eL rt h7.1, if_neg ert]
  have Kq : K' q = 1 := by rw [eK q hq, if_pos rfl]
  have Lq : L' q = L p := by rw [eL q hq, if_pos rfl]
  have Loq : Lo' q = F p 2 := by rw [eLo q hq, if_pos rfl]
  have Hiq : Hi' q = Hi p := by rw [eHi q hq, if_pos rfl]
  have Rq : R' q = R p := by rw [eR q hq, if_pos rfl]
  have Nq : N' q = 2 := by rw [eN q hq, if_pos rfl]
  have Lx : ∀ x, x < 24 → x ≠ q → L' x = L x := fun x hx e => by rw [eL x hx, if_neg e]
  have Lox : ∀ x, x < 24 → x ≠ q → Lo' x = Lo x := fun x hx e => by rw [eLo x hx, if_neg e]
  have Kx : ∀ x, x < 24 → K x = 1 → K' x = 1 := fun x hx k => by rw [eK x hx, if_neg (nq x k)]; exact k
  have Hip : Hi' p = F p 2 := by rw [eHi p hp, if_neg hpq, if_pos rfl]
  have Rp : R' p = (q : Int) := by rw [eR p hp, if_neg hpq, if_pos rfl]
  have Np : N' p = 3 := by rw [eN p hp, if_neg hpq, if_pos rfl]
  have Hix : ∀ x, x < 24 → x ≠ q → x ≠ p → Hi' x = Hi x := fun x hx e e2 => by rw [eHi x hx, if_neg e, if_neg e2]
  have Rx : ∀ x, x < 24 → x ≠ q → x ≠ p → R' x = R x := fun x hx e e2 => by rw [eR x hx, if_neg e, if_neg e2]
  have Nx : ∀ x, x < 24 → x ≠ q → x ≠ p → N' x = N x := fun x hx e e2 => by rw [eN x hx, if_neg e, if_neg e2]
  have Fx : ∀ x, x < 24 → K' x = 1 → x ≠ q → ∀ i : Nat, (i : Int) < N' x → F' x i = F x i := fun x hx kx e i hi => by rw [eF x hx kx i hi, if_neg e]
  have Sx : ∀ x, x < 24 → K' x = 1 → x ≠ q → ∀ i : Nat, (i : Int) < N' x → S' x i = S x i := fun x hx kx e i hi => by rw [eS x hx kx i hi, if_neg e]
  have Fq : ∀ i : Nat, (i : Int) < 2 → F' q i = F p (i + 3) := fun i hi => by rw [eF q hq Kq i (by omega), if_pos rfl]
  have Sq : ∀ i : Nat, (i : Int) < 2 → S' q i = S p (i + 3) := fun i hi => by rw [eS q hq Kq i (by omega), if_pos rfl]
  refine ⟨fun x hx kx => ?_, fun x hx kx rx => ?_, fun x hx kx i hi => ?_, fun x hx kx lx => ?_, fun x hx kx lx i hi => ?_, fun x y hx hy kx ky el ne => ?_, h7.1, Kx rt h7.1 h7.2.1, by rw [Lox rt h7.1 ert]; exact h7.2.2⟩
  · by_cases e : x = q
    · subst e
      rw [Lq, Loq, Hiq, Rq, Nq, eLrt]
      exact ⟨a.1, a.2.1, by omega, by omega, a.2.2.2.2.1, by omega, by omega, a.2.2.2.2.2.2.2⟩
    · have ax := h1 x hx (old x hx kx e)
      by_cases e2 : x = p
      · subst e2
        rw [Lx x hx e, Lox x hx e, Hip, Rp, Np, eLrt]
        exact ⟨a.1, a.2.1, a.2.2.1, b2.1, by omega, by omega, by omega, fun z => by omega⟩
      · rw [Lx x hx e, Lox x hx e, Hix x hx e e2, Rx x hx e e2, Nx x hx e e2, eLrt]
        exact ax
  · by_cases e : x = q
    · subst e
      rw [Rq] at rx ⊢
      obtain ⟨r, r1, r2, r3, r4, r5⟩ := h2 p hp kp rx
      have rq := nq r r3
      exact ⟨r, r1, r2, Kx r r1 r3, by rw [Lx r r1 rq, Lq]; exact r4, by rw [Lox r r1 rq, Hiq]; exact r5⟩
    · by_cases e2 : x = p
      · subst e2
        exact ⟨q, hq, Rp, Kq, by rw [Lq, Lx x hx e], by rw [Loq, Hip]⟩
      · rw [Rx x hx e e2] at rx ⊢
        obtain ⟨r, r1, r2, r3, r4, r5⟩ := h2 x hx (old x hx kx e) rx
        have rq := nq r r3
        exact ⟨r, r1, r2, Kx r r1 r3, by rw [Lx r r1 rq, Lx x hx e]; exact r4, by rw [Lox r r1 rq, Hix x hx e e2]; exact r5⟩
  · by_cases e : x = q
    · subst e
      rw [Nq] at hi ⊢
      rw [Fq i hi, Loq, Hiq]
      have hi2 : i = 0 ∨ i = 1 := by omega
      rcases hi2 with rfl | rfl
      · refine ⟨g2, b3.2.1, fun _ => ?_⟩
        rw [Fq 1 (by omega)]
        exact g3
      · refine ⟨?_, b4.2.1, fun g => by omega⟩
        show F p 2 < F p 4
        omega
    · by_cases e2 : x = p
      · subst e2
        rw [Fx x hx kx e i hi, Lox x hx e, Hip]
        rw [Np] at hi ⊢
        have hi2 : i = 0 ∨ i = 1 ∨ i = 2 := by omega
        rcases hi2 with rfl | rfl | rfl
        · refine ⟨b0.1, by omega, fun _ => ?_⟩
          rw [Fx x hx kx e 1 (by omega)]; exact g0
        · refine ⟨b1.1, by omega, fun _ => ?_⟩
          rw [Fx x hx kx e 2 (by omega)]; exact g1
        · exact ⟨b2.1, Int.le_refl _, fun g => by omega⟩
      · have b := h3 x hx (old x hx kx e) i (by rw [← Nx x hx e e2]; exact hi)
        rw [Fx x hx kx e i hi, Lox x hx e, Hix x hx e e2]
        refine ⟨b.1, b.2.1, fun g => ?_⟩
        rw [Fx x hx kx e (i + 1) (by omega)]
        exact b.2.2 (by rw [← Nx x hx e e2]; exact g)
  · by_cases e : x = q
    · subst e
      rw [Lq] at lx
      rw [Nq, Hiq]
      refine ⟨by omega, fun i g => ?_⟩
      rw [Fq i (by omega)]
      exact (h4 p hp kp lx).2 (i + 3) (by omega)
    · by_cases e2 : x = p
      · subst e2
        rw [Np, Hip]
        refine ⟨by omega, fun i g => ?_⟩
        rw [Fx x hx kx e i (by omega)]
        have : i = 2 := by omega
        subst this
        rfl
      · rw [Lx x hx e] at lx
        obtain ⟨a1, a2⟩ := h4 x hx (old x hx kx e) lx
        rw [Nx x hx e e2, Hix x hx e e2]
        refine ⟨a1, fun i g => ?_⟩
        rw [Fx x hx kx e i (by rw [Nx x hx e e2]; omega)]
        exact a2 i g
  · by_cases e : x = q
    · subst e
      rw [Lq] at lx
      rw [Nq] at hi
      obtain ⟨c, c1, c2, c3, c4, c5⟩ := h5 p hp kp lx (i + 3) (by omega)
      have cq := nq c c3
      refine ⟨c, c1, by rw [Sq i hi]; exact c2, Kx c c1 c3, by rw [Lx c c1 cq, Lq]; exact c4, ?_⟩
      rw [Lox c c1 cq, c5]
      cases i with
      | zero => rw [lk_lo_0, Loq]; rfl
      | succ i => rw [lk_lo_s, lk_lo_s, Fq i (by omega)]
    · rw [Lx x hx e] at lx
      have ni : (i : Int) < N x := by
        by_cases e2 : x = p
        · subst e2; rw [Np] at hi; omega
        · rw [← Nx x hx e e2]; exact hi
      obtain ⟨c, c1, c2, c3, c4, c5⟩ := h5 x hx (old x hx kx e) lx i ni
      have cq := nq c c3
      refine ⟨c, c1, by rw [Sx x hx kx e i hi]; exact c2, Kx c c1 c3, by rw [Lx c c1 cq, Lx x hx e]; exact c4, ?_⟩
      rw [Lox c c1 cq, c5]
      cases i with
      | zero => rw [lk_lo_0, lk_lo_0, Lox x hx e]
      | succ i => rw [lk_lo_s, lk_lo_s, Fx x hx kx e i (by omega)]
  · by_cases e : x = q
    · subst e
      have ey : y ≠ x := fun z => ne z.symm
      rw [Lq, Lx y hy ey] at el
      rw [Loq, Hiq, Lox y hy ey]
      by_cases e2 : y = p
      · subst e2
        rw [Hip]
        right; omega
      · rw [Hix y hy ey e2]
        rcases h6 p y hp hy kp (old y hy ky ey) el (fun z => e2 z.symm) with g | g
        · left; exact g
        · right; omega
    · by_cases e2 : y = q
      · subst e2
        rw [Lx x hx e, Lq] at el
        rw [Loq, Hiq, Lox x hx e]
        by_cases e3 : x = p
        · subst e3
          rw [Hip]
          left; omega
        · rw [Hix x hx e e3]
          rcases h6 x p hx hp (old x hx kx e) kp el e3 with g | g
          · left; omega
          · right; exact g
      · rw [Lx x hx e, Lx y hy e2] at el
        rw [Lox x hx e, Lox y hy e2]
        have o := h6 x y hx hy (old x hx kx e) (old y hy ky e2) el ne
        by_cases e3 : x = p
        · subst e3
          rw [Hip, Hix y hy e2 (fun z => ne z.symm)]
          rcases o with g | g
          · left; omega
          · right; exact g
        · by_cases e4 : y = p
          · subst e4
            rw [Hip, Hix x hx e e3]
            rcases o with g | g
            · left; exact g
            · right; omega
          · rw [Hix x hx e e3, Hix y hy e2 e4]
            exact o
end Tree
