section
/-! the memory of a tree: a field's number and a place in it. 0 kind, 1 level, 2 low, 3 high, 4 right, 5 count, 6 who locks it, 7 first and 8 second (five places a page), 9 awaited (all of a page); 10 the queue;
11 busy (in the class: idle), 12 operation, 13 phase, 14 place, 15 key, 16 wanted level, 17 value, 18 page that it is about, 19 path (32 places a task), 20 answered, 21 answer, 22 counts (four places a task: all of a task); 23 a stack of pages; 24: root, queued, thrown -/
abbrev lk_M : Type := Nat → Nat → Int32
def lk_st (σ : lk_M) (a i : Nat) (v : Int32) : lk_M := va_up σ a (upd (σ a) i v)
theorem lk_st_eq (σ : lk_M) (a i : Nat) (v : Int32) (b j : Nat) : lk_st σ a i v b j = if b = a ∧ j = i then v else σ b j := by
  unfold lk_st va_up upd
  by_cases h : b = a
  · subst h
    by_cases h2 : j = i
    · simp [h2]
    · simp [h2]
  · simp [h]
theorem lk_up_eq (σ : lk_M) (a : Nat) (f : Nat → Int32) (b j : Nat) : va_up σ a f b j = if b = a then f j else σ b j := by
  unfold va_up
  by_cases h : b = a
  · simp [h]
  · simp [h]
/-- the entries from lo to hi - 1 go one place up, x comes to lo -/
def lk_shR (f : Nat → Int32) (lo hi : Nat) (x : Int32) : Nat → Int32 := fun i => if i = lo then x else if lo < i ∧ i ≤ hi then f (i - 1) else f i
/-- the entries from lo + 1 to hi go one place down -/
def lk_shL (f : Nat → Int32) (lo hi : Nat) : Nat → Int32 := fun i => if lo ≤ i ∧ i < hi then f (i + 1) else f i
def lk_ins (σ : lk_M) (p k n : Nat) (a b : Int32) : lk_M :=
  va_up (va_up (va_up σ 7 (lk_shR (σ 7) (5 * p + k) (5 * p + n) a)) 8 (lk_shR (σ 8) (5 * p + k) (5 * p + n) b)) 5 (upd (σ 5) p (nI (n + 1)))
def lk_del (σ : lk_M) (p k n : Nat) : lk_M :=
  va_up (va_up (va_up σ 7 (lk_shL (σ 7) (5 * p + k) (5 * p + (n - 1)))) 8 (lk_shL (σ 8) (5 * p + k) (5 * p + (n - 1)))) 5 (upd (σ 5) p (nI (n - 1)))
def lk_mk (σ : lk_M) (p : Nat) (l lo hi r : Int32) : lk_M :=
  lk_st (lk_st (lk_st (lk_st (lk_st (lk_st (lk_st σ 0 p 1) 1 p l) 2 p lo) 3 p hi) 4 p r) 5 p 0) 6 p (-1)
/-- how many places from b on are below k, at most n -/
def lk_fr (f : Nat → Int32) (k : Int32) : Nat → Nat → Nat
  | 0, _ => 0
  | n + 1, b => if f b < k then lk_fr f k n (b + 1) + 1 else 0
theorem lk_fr_le (f : Nat → Int32) (k : Int32) : ∀ (n b : Nat), lk_fr f k n b ≤ n := by
  intro n
  induction n with
  | zero => intro b; exact Nat.le_refl _
  | succ n ih =>
    intro b
    unfold lk_fr
    by_cases h : f b < k
    · rw [if_pos h]; have := ih (b + 1); omega
    · rw [if_neg h]; omega
theorem lk_fr_lt (f : Nat → Int32) (k : Int32) : ∀ (n b j : Nat), j < lk_fr f k n b → f (b + j) < k := by
  intro n
  induction n with
  | zero => intro b j h; exact absurd h (by unfold lk_fr; omega)
  | succ n ih =>
    intro b j h
    unfold lk_fr at h
    by_cases c : f b < k
    · rw [if_pos c] at h
      cases j with
      | zero => exact c
      | succ j =>
        have := ih (b + 1) j (by omega)
        rw [show b + (j + 1) = b + 1 + j by omega]
        exact this
    · rw [if_neg c] at h
      omega
theorem lk_fr_ge (f : Nat → Int32) (k : Int32) : ∀ (n b : Nat), lk_fr f k n b < n → ¬ f (b + lk_fr f k n b) < k := by
  intro n
  induction n with
  | zero => intro b h; omega
  | succ n ih =>
    intro b h
    unfold lk_fr at h ⊢
    by_cases c : f b < k
    · rw [if_pos c] at h ⊢
      have := ih (b + 1) (by omega)
      rw [show b + (lk_fr f k n (b + 1) + 1) = b + 1 + lk_fr f k n (b + 1) by omega]
      exact this
    · rw [if_neg c]
      exact c
/-- the first place from b on, of n, that holds x; or b + n -/
def lk_ff (f : Nat → Int32) (x : Int32) : Nat → Nat → Nat
  | 0, b => b
  | n + 1, b => if f b = x then b else lk_ff f x n (b + 1)
theorem lk_ff_le (f : Nat → Int32) (x : Int32) : ∀ (n b : Nat), b ≤ lk_ff f x n b ∧ lk_ff f x n b ≤ b + n := by
  intro n
  induction n with
  | zero => intro b; unfold lk_ff; omega
  | succ n ih =>
    intro b
    unfold lk_ff
    by_cases h : f b = x
    · rw [if_pos h]; omega
    · rw [if_neg h]; have := ih (b + 1); omega
theorem lk_ff_at (f : Nat → Int32) (x : Int32) : ∀ (n b : Nat), lk_ff f x n b < b + n → f (lk_ff f x n b) = x := by
  intro n
  induction n with
  | zero => intro b h; unfold lk_ff at h; omega
  | succ n ih =>
    intro b h
    unfold lk_ff at h ⊢
    by_cases c : f b = x
    · rw [if_pos c]; exact c
    · rw [if_neg c] at h ⊢
      exact ih (b + 1) (by omega)
theorem lk_ff_no (f : Nat → Int32) (x : Int32) : ∀ (n b j : Nat), b ≤ j → j < lk_ff f x n b → f j ≠ x := by
  intro n
  induction n with
  | zero => intro b j h1 h2; unfold lk_ff at h2; omega
  | succ n ih =>
    intro b j h1 h2
    unfold lk_ff at h2
    by_cases c : f b = x
    · rw [if_pos c] at h2; omega
    · rw [if_neg c] at h2
      by_cases e : j = b
      · rw [e]; exact c
      · exact ih (b + 1) j (by omega) h2
/-- a place as a number, or -1 -/
def lk_nn (j n : Nat) : Int32 := if j < n then nI j else -1
def lk_free (σ : lk_M) : Nat := lk_ff (σ 0) 0 24 0
/-- the queue: is it there; it comes; it goes -/
def lk_has (f : Nat → Int32) (x : Int32) (n : Nat) : Prop := ∃ i, i < n ∧ f i = x
def lk_cmp (f : Nat → Int32) (x : Int32) : Nat → (Nat → Int32) × Nat
  | 0 => (f, 0)
  | i + 1 => if (lk_cmp f x i).1 i = x then lk_cmp f x i else (upd (lk_cmp f x i).1 (lk_cmp f x i).2 ((lk_cmp f x i).1 i), (lk_cmp f x i).2 + 1)
theorem lk_cmp_le (f : Nat → Int32) (x : Int32) : ∀ i, (lk_cmp f x i).2 ≤ i := by
  intro i
  induction i with
  | zero => exact Nat.le_refl _
  | succ i ih =>
    unfold lk_cmp
    by_cases h : (lk_cmp f x i).1 i = x
    · rw [if_pos h]; omega
    · rw [if_neg h]; show (lk_cmp f x i).2 + 1 ≤ i + 1; omega
noncomputable def lk_cq (σ : lk_M) (x : Int32) (n : Nat) : lk_M := @ite _ (lk_has (σ 10) x n ∨ n = 12) (Classical.propDecidable _) σ (lk_st (lk_st σ 10 n x) 24 1 (nI (n + 1)))
def lk_lq (σ : lk_M) (x : Int32) (n : Nat) : lk_M := va_up (va_up σ 10 (lk_cmp (σ 10) x n).1) 24 (upd (σ 24) 1 (nI (lk_cmp (σ 10) x n).2))
/-- a task's bit; all but a task's -/
def lk_bit (t : Nat) : Int32 := (1 : Int32) <<< (nI t &&& 31)
def lk_off (t : Nat) : Int32 := lk_bit t ^^^ (-1)
/-- the bits of the first n tasks that b names, but one -/
noncomputable def lk_mask (b : Nat → Prop) (t0 : Nat) : Nat → Int32
  | 0 => 0
  | t + 1 => @ite _ (b t ∧ t ≠ t0) (Classical.propDecidable _) (lk_mask b t0 t ||| lk_bit t) (lk_mask b t0 t)
/-- no path; a search from x; a restart; to the right -/
def lk_nop (σ : lk_M) (t : Nat) : lk_M := va_up σ 19 (fun i => if 32 * t ≤ i ∧ i < 32 * t + 32 then -1 else σ 19 i)
def lk_srch (σ : lk_M) (t : Nat) (x : Int32) : lk_M := lk_st (lk_st σ 13 t 0) 14 t x
def lk_rst (σ : lk_M) (t : Nat) : lk_M := lk_st (lk_srch (lk_nop σ t) t (σ 24 0)) 22 (4 * t + 3) (σ 22 (4 * t + 3) + 1)
def lk_rgt (σ : lk_M) (t p : Nat) : lk_M := lk_st (lk_st σ 14 t (σ 4 p)) 22 (4 * t + 2) (σ 22 (4 * t + 2) + 1)
end
section
/-! the tree by its numbers: kind, level, low, high, right, count (of a page), first and second (of a page's entry), and the root -/
def lk_T1 (K L Lo Hi R N : Nat → Int) (rt : Nat) : Prop := ∀ p, p < 24 → K p = 1 → 0 ≤ L p ∧ L p ≤ L rt ∧ -1 ≤ Lo p ∧ Lo p < Hi p ∧ Hi p ≤ 999 ∧ 0 ≤ N p ∧ N p ≤ 5 ∧ (R p = -1 → Hi p = 999)
def lk_T2 (K L Lo Hi R : Nat → Int) : Prop := ∀ p, p < 24 → K p = 1 → R p ≠ -1 → ∃ r : Nat, r < 24 ∧ R p = r ∧ K r = 1 ∧ L r = L p ∧ Lo r = Hi p
def lk_T3 (K Lo Hi N : Nat → Int) (F : Nat → Nat → Int) : Prop := ∀ p, p < 24 → K p = 1 → ∀ i : Nat, (i : Int) < N p → Lo p < F p i ∧ F p i ≤ Hi p ∧ ((i : Int) + 1 < N p → F p i < F p (i + 1))
def lk_T4 (K L Hi N : Nat → Int) (F : Nat → Nat → Int) : Prop := ∀ p, p < 24 → K p = 1 → 0 < L p → 1 ≤ N p ∧ ∀ i : Nat, (i : Int) + 1 = N p → F p i = Hi p
/-- the low that the child of entry i must have -/
def lk_lo (Lo : Nat → Int) (F : Nat → Nat → Int) (p i : Nat) : Int := if i = 0 then Lo p else F p (i - 1)
def lk_T5 (K L Lo N : Nat → Int) (F S : Nat → Nat → Int) : Prop := ∀ p, p < 24 → K p = 1 → 0 < L p → ∀ i : Nat, (i : Int) < N p → ∃ c : Nat, c < 24 ∧ S p i = c ∧ K c = 1 ∧ L c + 1 = L p ∧ Lo c = lk_lo Lo F p i
def lk_T6 (K L Lo Hi : Nat → Int) : Prop := ∀ p q, p < 24 → q < 24 → K p = 1 → K q = 1 → L p = L q → p ≠ q → Hi p ≤ Lo q ∨ Hi q ≤ Lo p
def lk_T7 (K Lo : Nat → Int) (rt : Nat) : Prop := rt < 24 ∧ K rt = 1 ∧ Lo rt = -1
def lk_Tr (K L Lo Hi R N : Nat → Int) (F S : Nat → Nat → Int) (rt : Nat) : Prop :=
  lk_T1 K L Lo Hi R N rt ∧ lk_T2 K L Lo Hi R ∧ lk_T3 K Lo Hi N F ∧ lk_T4 K L Hi N F ∧ lk_T5 K L Lo N F S ∧ lk_T6 K L Lo Hi ∧ lk_T7 K Lo rt
section Tree
variable {K L Lo Hi R N K' L' Lo' Hi' R' N' : Nat → Int} {F S F' S' : Nat → Nat → Int} {rt : Nat}
theorem lk_lo_0 {p : Nat} : lk_lo Lo F p 0 = Lo p := rfl
theorem lk_lo_s {p i : Nat} : lk_lo Lo F p (i + 1) = F p i := rfl
theorem lk_lo_pos {p i : Nat} (h : 0 < i) : lk_lo Lo F p i = F p (i - 1) := by
  unfold lk_lo
  rw [if_neg (by omega)]
/-- an entry's bound is below every later one's -/
theorem lk_inc (h3 : lk_T3 K Lo Hi N F) {p : Nat} (hp : p < 24) (hk : K p = 1) (i : Nat) : ∀ d : Nat, (i : Int) + d + 1 < N p → F p i < F p (i + d + 1) := by
  intro d
  induction d with
  | zero => intro h; exact (h3 p hp hk i (by omega)).2.2 (by omega)
  | succ d ih =>
    intro h
    have a := ih (by omega)
    have b := (h3 p hp hk (i + d + 1) (by omega)).2.2 (by omega)
    have e : i + (d + 1) + 1 = i + d + 1 + 1 := by omega
    rw [e]
    omega
theorem lk_incl (h3 : lk_T3 K Lo Hi N F) {p : Nat} (hp : p < 24) (hk : K p = 1) {i j : Nat} (h : i < j) (hj : (j : Int) < N p) : F p i < F p j := by
  obtain ⟨d, rfl⟩ : ∃ d, j = i + d + 1 := ⟨j - i - 1, by omega⟩
  exact lk_inc h3 hp hk i d (by omega)
theorem lk_incle (h3 : lk_T3 K Lo Hi N F) {p : Nat} (hp : p < 24) (hk : K p = 1) {i j : Nat} (h : i ≤ j) (hj : (j : Int) < N p) : F p i ≤ F p j := by
  by_cases e : i = j
  · subst e; exact Int.le_refl _
  · exact Int.le_of_lt (lk_incl h3 hp hk (by omega) hj)
/-- the low of an entry's child: within the node, below the entry's bound -/
theorem lk_lo_in (h3 : lk_T3 K Lo Hi N F) {p : Nat} (hp : p < 24) (hk : K p = 1) {i : Nat} (hi : (i : Int) < N p) : Lo p ≤ lk_lo Lo F p i ∧ lk_lo Lo F p i < F p i ∧ F p i ≤ Hi p := by
  have a := h3 p hp hk i hi
  cases i with
  | zero => rw [lk_lo_0]; omega
  | succ i =>
    rw [lk_lo_s]
    have b := h3 p hp hk i (by omega)
    have c := b.2.2 (by omega)
    omega
theorem lk_lo_mono (h3 : lk_T3 K Lo Hi N F) {p : Nat} (hp : p < 24) (hk : K p = 1) {i j : Nat} (h : i < j) (hj : (j : Int) < N p) : lk_lo Lo F p i < lk_lo Lo F p j := by
  have a := (lk_lo_in h3 hp hk (i := i) (by omega)).2.1
  rw [lk_lo_pos (i := j) (by omega)]
  have b := lk_incle h3 hp hk (i := i) (j := j - 1) (by omega) (by omega)
  omega
/-- a page is the child of one entry at most -/
theorem lk_uniq (h : lk_Tr K L Lo Hi R N F S rt) {p q i j : Nat} (hp : p < 24) (hq : q < 24) (kp : K p = 1) (kq : K q = 1) (lp : 0 < L p) (lq : 0 < L q) (hi : (i : Int) < N p) (hj : (j : Int) < N q) (e : S p i = S q j) : p = q ∧ i = j := by
  obtain ⟨h1, h2, h3, h4, h5, h6, h7⟩ := h
  obtain ⟨c, c1, c2, c3, c4, c5⟩ := h5 p hp kp lp i hi
  obtain ⟨d, d1, d2, d3, d4, d5⟩ := h5 q hq kq lq j hj
  have hcd : c = d := by omega
  subst hcd
  have a := lk_lo_in h3 hp kp hi
  have b := lk_lo_in h3 hq kq hj
  have hpq : p = q := by
    by_cases hne : p = q
    · exact hne
    · exfalso
      rcases h6 p q hp hq kp kq (by omega) hne with g | g <;> omega
  subst hpq
  refine ⟨rfl, ?_⟩
  by_cases hij : i = j
  · exact hij
  · exfalso
    rcases Nat.lt_or_gt_of_ne hij with g | g
    · have := lk_lo_mono h3 hp kp g hj; omega
    · have := lk_lo_mono h3 hp kp g hi; omega
/-- same level, same low: the same node; and the same high -/
theorem lk_samelo (h1 : lk_T1 K L Lo Hi R N rt) (h6 : lk_T6 K L Lo Hi) {p q : Nat} (hp : p < 24) (hq : q < 24) (kp : K p = 1) (kq : K q = 1) (e : L p = L q) (el : Lo p = Lo q) : p = q := by
  by_cases hne : p = q
  · exact hne
  · exfalso
    have a := h1 p hp kp
    have b := h1 q hq kq
    rcases h6 p q hp hq kp kq e hne with g | g <;> omega
theorem lk_samehi (h1 : lk_T1 K L Lo Hi R N rt) (h6 : lk_T6 K L Lo Hi) {p q : Nat} (hp : p < 24) (hq : q < 24) (kp : K p = 1) (kq : K q = 1) (e : L p = L q) (el : Hi p = Hi q) : p = q := by
  by_cases hne : p = q
  · exact hne
  · exfalso
    have a := h1 p hp kp
    have b := h1 q hq kq
    rcases h6 p q hp hq kp kq e hne with g | g <;> omega
/-- an entry comes into a leaf -/
theorem lk_tr_ins {p j : Nat} {k : Int} (h : lk_Tr K L Lo Hi R N F S rt) (hp : p < 24) (kp : K p = 1) (l0 : L p = 0) (n4 : N p ≤ 4) (hj : (j : Int) ≤ N p) (k1 : Lo p < k) (k2 : k ≤ Hi p) (lt : ∀ i : Nat, i < j → F p i < k) (gt : (j : Int) < N p → k < F p j)
    (eN : ∀ x, x < 24 → N' x = if x = p then N p + 1 else N x)
    (eF : ∀ x, x < 24 → K x = 1 → ∀ i : Nat, (i : Int) < N' x → F' x i = if x = p then (if i < j then F p i else if i = j then k else F p (i - 1)) else F x i)
    (eS : ∀ x, x < 24 → K x = 1 → x ≠ p → ∀ i : Nat, (i : Int) < N x → S' x i = S x i) : lk_Tr K L Lo Hi R N' F' S' rt := by
  obtain ⟨h1, h2, h3, h4, h5, h6, h7⟩ := h
  refine ⟨fun x hx kx => ?_, h2, fun x hx kx i hi => ?_, fun x hx kx lx => ?_, fun x hx kx lx i hi => ?_, h6, h7⟩
  · have a := h1 x hx kx
    rw [eN x hx]
    by_cases e : x = p
    · subst e; rw [if_pos rfl]; omega
    · rw [if_neg e]; exact a
  · by_cases e : x = p
    · subst e
      have hi' := hi
      rw [eN x hx, if_pos rfl] at hi'
      rw [eF x hx kx i hi, if_pos rfl]
      have hN : N' x = N x + 1 := by rw [eN x hx, if_pos rfl]
      have s1 : (i : Int) + 1 < N' x → F' x (i + 1) = if i + 1 < j then F x (i + 1) else if i + 1 = j then k else F x (i + 1 - 1) := fun g => by
        rw [eF x hx kx (i + 1) (by omega), if_pos rfl]
      by_cases c1 : i < j
      · rw [if_pos c1]
        have b := h3 x hx kx i (by omega)
        refine ⟨b.1, b.2.1, fun g => ?_⟩
        rw [s1 g]
        by_cases c2 : i + 1 < j
        · rw [if_pos c2]; exact b.2.2 (by omega)
        · rw [if_neg c2, if_pos (by omega)]; exact lt i c1
      · rw [if_neg c1]
        by_cases c2 : i = j
        · rw [if_pos c2]
          refine ⟨k1, k2, fun g => ?_⟩
          rw [s1 g, if_neg (by omega), if_neg (by omega)]
          subst c2
          exact gt (by omega)
        · rw [if_neg c2]
          have b := h3 x hx kx (i - 1) (by omega)
          refine ⟨b.1, b.2.1, fun g => ?_⟩
          rw [s1 g, if_neg (by omega), if_neg (by omega)]
          have b2 := b.2.2 (by omega)
          have e2 : i - 1 + 1 = i + 1 - 1 := by omega
          rw [e2] at b2
          exact b2
    · have hN : N' x = N x := by rw [eN x hx, if_neg e]
      rw [hN] at hi ⊢
      have b := h3 x hx kx i hi
      rw [eF x hx kx i (by omega), if_neg e]
      refine ⟨b.1, b.2.1, fun g => ?_⟩
      rw [eF x hx kx (i + 1) (by omega), if_neg e]
      exact b.2.2 g
  · have e : x ≠ p := fun e => by subst e; omega
    have hN : N' x = N x := by rw [eN x hx, if_neg e]
    obtain ⟨a, b⟩ := h4 x hx kx lx
    rw [hN]
    refine ⟨a, fun i g => ?_⟩
    rw [eF x hx kx i (by omega), if_neg e]
    exact b i g
  · have e : x ≠ p := fun e => by subst e; omega
    have hN : N' x = N x := by rw [eN x hx, if_neg e]
    obtain ⟨c, c1, c2, c3, c4, c5⟩ := h5 x hx kx lx i (by omega)
    refine ⟨c, c1, ?_, c3, c4, ?_⟩
    · rw [eS x hx kx e i (by omega)]; exact c2
    · rw [c5]
      cases i with
      | zero => rfl
      | succ i => rw [lk_lo_s, lk_lo_s, eF x hx kx i (by omega), if_neg e]
/-- an entry goes out of a leaf -/
theorem lk_tr_del {p j : Nat} (h : lk_Tr K L Lo Hi R N F S rt) (hp : p < 24) (kp : K p = 1) (l0 : L p = 0) (hj : (j : Int) < N p)
    (eN : ∀ x, x < 24 → N' x = if x = p then N p - 1 else N x)
    (eF : ∀ x, x < 24 → K x = 1 → ∀ i : Nat, (i : Int) < N' x → F' x i = if x = p then (if i < j then F p i else F p (i + 1)) else F x i)
    (eS : ∀ x, x < 24 → K x = 1 → x ≠ p → ∀ i : Nat, (i : Int) < N x → S' x i = S x i) : lk_Tr K L Lo Hi R N' F' S' rt := by
  obtain ⟨h1, h2, h3, h4, h5, h6, h7⟩ := h
  refine ⟨fun x hx kx => ?_, h2, fun x hx kx i hi => ?_, fun x hx kx lx => ?_, fun x hx kx lx i hi => ?_, h6, h7⟩
  · have a := h1 x hx kx
    rw [eN x hx]
    by_cases e : x = p
    · subst e; rw [if_pos rfl]; omega
    · rw [if_neg e]; exact a
  · by_cases e : x = p
    · subst e
      have hN : N' x = N x - 1 := by rw [eN x hx, if_pos rfl]
      rw [eF x hx kx i hi, if_pos rfl]
      have s1 : (i : Int) + 1 < N' x → F' x (i + 1) = if i + 1 < j then F x (i + 1) else F x (i + 1 + 1) := fun g => by
        rw [eF x hx kx (i + 1) (by omega), if_pos rfl]
      by_cases c1 : i < j
      · rw [if_pos c1]
        have b := h3 x hx kx i (by omega)
        refine ⟨b.1, b.2.1, fun g => ?_⟩
        rw [s1 g]
        by_cases c2 : i + 1 < j
        · rw [if_pos c2]; exact b.2.2 (by omega)
        · rw [if_neg c2]; exact lk_incl h3 hx kx (by omega) (by omega)
      · rw [if_neg c1]
        have b := h3 x hx kx (i + 1) (by omega)
        refine ⟨b.1, b.2.1, fun g => ?_⟩
        rw [s1 g, if_neg (by omega)]
        exact b.2.2 (by omega)
    · have hN : N' x = N x := by rw [eN x hx, if_neg e]
      rw [hN] at hi ⊢
      have b := h3 x hx kx i hi
      rw [eF x hx kx i (by omega), if_neg e]
      refine ⟨b.1, b.2.1, fun g => ?_⟩
      rw [eF x hx kx (i + 1) (by omega), if_neg e]
      exact b.2.2 g
  · have e : x ≠ p := fun e => by subst e; omega
    have hN : N' x = N x := by rw [eN x hx, if_neg e]
    obtain ⟨a, b⟩ := h4 x hx kx lx
    rw [hN]
    refine ⟨a, fun i g => ?_⟩
    rw [eF x hx kx i (by omega), if_neg e]
    exact b i g
  · have e : x ≠ p := fun e => by subst e; omega
    have hN : N' x = N x := by rw [eN x hx, if_neg e]
    obtain ⟨c, c1, c2, c3, c4, c5⟩ := h5 x hx kx lx i (by omega)
    refine ⟨c, c1, ?_, c3, c4, ?_⟩
    · rw [eS x hx kx e i (by omega)]; exact c2
    · rw [c5]
      cases i with
      | zero => rfl
      | succ i => rw [lk_lo_s, lk_lo_s, eF x hx kx i (by omega), if_neg e]
/-- a page is posted in a node -/
theorem lk_tr_post {p j q : Nat} {k : Int} (h : lk_Tr K L Lo Hi R N F S rt) (hp : p < 24) (kp : K p = 1) (lp : 0 < L p) (n4 : N p ≤ 4) (hj : (j : Int) < N p) (k1 : Lo p < k) (lt : ∀ i : Nat, i < j → F p i < k) (gt : k < F p j)
    (hq : q < 24) (kq : K q = 1) (lq : L q + 1 = L p) (loq : Lo q = k)
    (eN : ∀ x, x < 24 → N' x = if x = p then N p + 1 else N x)
    (eF : ∀ x, x < 24 → K x = 1 → ∀ i : Nat, (i : Int) < N' x → F' x i = if x = p then (if i < j then F p i else if i = j then k else F p (i - 1)) else F x i)
    (eS : ∀ x, x < 24 → K x = 1 → ∀ i : Nat, (i : Int) < N' x → S' x i = if x = p then (if i ≤ j then S p i else if i = j + 1 then (q : Int) else S p (i - 1)) else S x i) : lk_Tr K L Lo Hi R N' F' S' rt := by
  obtain ⟨h1, h2, h3, h4, h5, h6, h7⟩ := h
  have hNp : N' p = N p + 1 := by rw [eN p hp, if_pos rfl]
  have hNx : ∀ x, x < 24 → x ≠ p → N' x = N x := fun x hx e => by rw [eN x hx, if_neg e]
  refine ⟨fun x hx kx => ?_, h2, fun x hx kx i hi => ?_, fun x hx kx lx => ?_, fun x hx kx lx i hi => ?_, h6, h7⟩
  · have a := h1 x hx kx
    by_cases e : x = p
    · subst e; rw [hNp]; omega
    · rw [hNx x hx e]; exact a
  · by_cases e : x = p
    · subst e
      rw [hNp] at hi ⊢
      rw [eF x hx kx i (by omega), if_pos rfl]
      have s1 : (i : Int) + 1 < N x + 1 → F' x (i + 1) = if i + 1 < j then F x (i + 1) else if i + 1 = j then k else F x (i + 1 - 1) := fun g => by
        rw [eF x hx kx (i + 1) (by omega), if_pos rfl]
      have bj := h3 x hx kx j hj
      by_cases c1 : i < j
      · rw [if_pos c1]
        have b := h3 x hx kx i (by omega)
        refine ⟨b.1, b.2.1, fun g => ?_⟩
        rw [s1 g]
        by_cases c2 : i + 1 < j
        · rw [if_pos c2]; exact b.2.2 (by omega)
        · rw [if_neg c2, if_pos (by omega)]; exact lt i c1
      · rw [if_neg c1]
        by_cases c2 : i = j
        · rw [if_pos c2]
          refine ⟨k1, by omega, fun g => ?_⟩
          rw [s1 g, if_neg (by omega), if_neg (by omega)]
          subst c2
          exact gt
        · rw [if_neg c2]
          have b := h3 x hx kx (i - 1) (by omega)
          refine ⟨b.1, b.2.1, fun g => ?_⟩
          rw [s1 g, if_neg (by omega), if_neg (by omega)]
          have b2 := b.2.2 (by omega)
          have e2 : i - 1 + 1 = i + 1 - 1 := by omega
          rw [e2] at b2
          exact b2
    · have hN := hNx x hx e
      rw [hN] at hi ⊢
      have b := h3 x hx kx i hi
      rw [eF x hx kx i (by omega), if_neg e]
      refine ⟨b.1, b.2.1, fun g => ?_⟩
      rw [eF x hx kx (i + 1) (by omega), if_neg e]
      exact b.2.2 g
  · obtain ⟨a, b⟩ := h4 x hx kx lx
    by_cases e : x = p
    · subst e
      rw [hNp]
      refine ⟨by omega, fun i g => ?_⟩
      rw [eF x hx kx i (by omega), if_pos rfl, if_neg (by omega), if_neg (by omega)]
      exact b (i - 1) (by omega)
    · rw [hNx x hx e]
      refine ⟨a, fun i g => ?_⟩
      rw [eF x hx kx i (by rw [hNx x hx e]; omega), if_neg e]
      exact b i g
  · by_cases e : x = p
    · subst e
      rw [hNp] at hi
      rw [eS x hx kx i (by omega), if_pos rfl]
      have fl : ∀ y : Nat, y < j → F' x y = F x y := fun y hy => by rw [eF x hx kx y (by omega), if_pos rfl, if_pos hy]
      have fj : F' x j = k := by rw [eF x hx kx j (by omega), if_pos rfl, if_neg (by omega), if_pos rfl]
      by_cases c1 : i ≤ j
      · rw [if_pos c1]
        obtain ⟨c, c1, c2, c3, c4, c5⟩ := h5 x hx kx lx i (by omega)
        refine ⟨c, c1, c2, c3, c4, ?_⟩
        rw [c5]
        cases i with
        | zero => rfl
        | succ i => rw [lk_lo_s, lk_lo_s, fl i (by omega)]
      · rw [if_neg c1]
        by_cases c2 : i = j + 1
        · rw [if_pos c2]
          subst c2
          exact ⟨q, hq, rfl, kq, lq, by rw [lk_lo_s, fj]; exact loq⟩
        · rw [if_neg c2]
          obtain ⟨c, c1, c2, c3, c4, c5⟩ := h5 x hx kx lx (i - 1) (by omega)
          refine ⟨c, c1, c2, c3, c4, ?_⟩
          rw [c5, lk_lo_pos (by omega), lk_lo_pos (by omega), eF x hx kx (i - 1) (by omega), if_pos rfl, if_neg (by omega), if_neg (by omega)]
    · have hN := hNx x hx e
      rw [hN] at hi
      obtain ⟨c, c1, c2, c3, c4, c5⟩ := h5 x hx kx lx i hi
      refine ⟨c, c1, ?_, c3, c4, ?_⟩
      · rw [eS x hx kx i (by omega), if_neg e]; exact c2
      · rw [c5]
        cases i with
        | zero => rfl
        | succ i => rw [lk_lo_s, lk_lo_s, eF x hx kx i (by omega), if_neg e]
/-- a node of five entries splits -/
theorem lk_tr_split {p q : Nat} (h : lk_Tr K L Lo Hi R N F S rt) (hp : p < 24) (hq : q < 24) (kp : K p = 1) (kq : K q ≠ 1) (n5 : N p = 5)
    (eK : ∀ x, x < 24 → K' x = if x = q then 1 else K x) (eL : ∀ x, x < 24 → L' x = if x = q then L p else L x)
    (eLo : ∀ x, x < 24 → Lo' x = if x = q then F p 2 else Lo x) (eHi : ∀ x, x < 24 → Hi' x = if x = q then Hi p else if x = p then F p 2 else Hi x)
    (eR : ∀ x, x < 24 → R' x = if x = q then R p else if x = p then (q : Int) else R x) (eN : ∀ x, x < 24 → N' x = if x = q then 2 else if x = p then 3 else N x)
    (eF : ∀ x, x < 24 → K' x = 1 → ∀ i : Nat, (i : Int) < N' x → F' x i = if x = q then F p (i + 3) else F x i)
    (eS : ∀ x, x < 24 → K' x = 1 → ∀ i : Nat, (i : Int) < N' x → S' x i = if x = q then S p (i + 3) else S x i) : lk_Tr K' L' Lo' Hi' R' N' F' S' rt := by
  obtain ⟨h1, h2, h3, h4, h5, h6, h7⟩ := h
  have hpq : p ≠ q := fun e => kq (by rw [← e]; exact kp)
  have old : ∀ x, x < 24 → K' x = 1 → x ≠ q → K x = 1 := fun x hx kx e => by rw [eK x hx, if_neg e] at kx; exact kx
  have nq : ∀ x, K x = 1 → x ≠ q := fun x kx e => kq (by rw [← e]; exact kx)
  have b0 := h3 p hp kp 0 (by omega)
  have b1 := h3 p hp kp 1 (by omega)
  have b2 := h3 p hp kp 2 (by omega)
  have b3 := h3 p hp kp 3 (by omega)
  have b4 := h3 p hp kp 4 (by omega)
  have a := h1 p hp kp
  have g2 : F p 2 < F p 3 := b2.2.2 (by omega)
  have g3 : F p 3 < F p 4 := b3.2.2 (by omega)
  have g0 : F p 0 < F p 1 := b0.2.2 (by omega)
  have g1 : F p 1 < F p 2 := b1.2.2 (by omega)
  have ert : rt ≠ q := nq rt h7.2.1
  have eLrt : L' rt = L rt := by rw [eL rt h7.1, if_neg ert]
  have Kq : K' q = 1 := by rw [eK q hq, if_pos rfl]
  have Lq : L' q = L p := by rw [eL q hq, if_pos rfl]
  have Loq : Lo' q = F p 2 := by rw [eLo q hq, if_pos rfl]
  have Hiq : Hi' q = Hi p := by rw [eHi q hq, if_pos rfl]
  have Rq : R' q = R p := by rw [eR q hq, if_pos rfl]
  have Nq : N' q = 2 := by rw [eN q hq, if_pos rfl]
  have Lx : ∀ x, x < 24 → x ≠ q → L' x = L x := fun x hx e => by rw [eL x hx, if_neg e]
  have Lox : ∀ x, x < 24 → x ≠ q → Lo' x = Lo x := fun x hx e => by rw [eLo x hx, if_neg e]
  have Kx : ∀ x, x < 24 → K x = 1 → K' x = 1 := fun x hx k => by rw [eK x hx, if_neg (nq x k)]; exact k
  have Hip : Hi' p = F p 2 := by rw [eHi p hp, if_neg hpq, if_pos rfl]
  have Rp : R' p = (q : Int) := by rw [eR p hp, if_neg hpq, if_pos rfl]
  have Np : N' p = 3 := by rw [eN p hp, if_neg hpq, if_pos rfl]
  have Hix : ∀ x, x < 24 → x ≠ q → x ≠ p → Hi' x = Hi x := fun x hx e e2 => by rw [eHi x hx, if_neg e, if_neg e2]
  have Rx : ∀ x, x < 24 → x ≠ q → x ≠ p → R' x = R x := fun x hx e e2 => by rw [eR x hx, if_neg e, if_neg e2]
  have Nx : ∀ x, x < 24 → x ≠ q → x ≠ p → N' x = N x := fun x hx e e2 => by rw [eN x hx, if_neg e, if_neg e2]
  have Fx : ∀ x, x < 24 → K' x = 1 → x ≠ q → ∀ i : Nat, (i : Int) < N' x → F' x i = F x i := fun x hx kx e i hi => by rw [eF x hx kx i hi, if_neg e]
  have Sx : ∀ x, x < 24 → K' x = 1 → x ≠ q → ∀ i : Nat, (i : Int) < N' x → S' x i = S x i := fun x hx kx e i hi => by rw [eS x hx kx i hi, if_neg e]
  have Fq : ∀ i : Nat, (i : Int) < 2 → F' q i = F p (i + 3) := fun i hi => by rw [eF q hq Kq i (by omega), if_pos rfl]
  have Sq : ∀ i : Nat, (i : Int) < 2 → S' q i = S p (i + 3) := fun i hi => by rw [eS q hq Kq i (by omega), if_pos rfl]
  refine ⟨fun x hx kx => ?_, fun x hx kx rx => ?_, fun x hx kx i hi => ?_, fun x hx kx lx => ?_, fun x hx kx lx i hi => ?_, fun x y hx hy kx ky el ne => ?_, h7.1, Kx rt h7.1 h7.2.1, by rw [Lox rt h7.1 ert]; exact h7.2.2⟩
  · by_cases e : x = q
    · subst e
      rw [Lq, Loq, Hiq, Rq, Nq, eLrt]
      exact ⟨a.1, a.2.1, by omega, by omega, a.2.2.2.2.1, by omega, by omega, a.2.2.2.2.2.2.2⟩
    · have ax := h1 x hx (old x hx kx e)
      by_cases e2 : x = p
      · subst e2
        rw [Lx x hx e, Lox x hx e, Hip, Rp, Np, eLrt]
        exact ⟨a.1, a.2.1, a.2.2.1, b2.1, by omega, by omega, by omega, fun z => by omega⟩
      · rw [Lx x hx e, Lox x hx e, Hix x hx e e2, Rx x hx e e2, Nx x hx e e2, eLrt]
        exact ax
  · by_cases e : x = q
    · subst e
      rw [Rq] at rx ⊢
      obtain ⟨r, r1, r2, r3, r4, r5⟩ := h2 p hp kp rx
      have rq := nq r r3
      exact ⟨r, r1, r2, Kx r r1 r3, by rw [Lx r r1 rq, Lq]; exact r4, by rw [Lox r r1 rq, Hiq]; exact r5⟩
    · by_cases e2 : x = p
      · subst e2
        exact ⟨q, hq, Rp, Kq, by rw [Lq, Lx x hx e], by rw [Loq, Hip]⟩
      · rw [Rx x hx e e2] at rx ⊢
        obtain ⟨r, r1, r2, r3, r4, r5⟩ := h2 x hx (old x hx kx e) rx
        have rq := nq r r3
        exact ⟨r, r1, r2, Kx r r1 r3, by rw [Lx r r1 rq, Lx x hx e]; exact r4, by rw [Lox r r1 rq, Hix x hx e e2]; exact r5⟩
  · by_cases e : x = q
    · subst e
      rw [Nq] at hi ⊢
      rw [Fq i hi, Loq, Hiq]
      have hi2 : i = 0 ∨ i = 1 := by omega
      rcases hi2 with rfl | rfl
      · refine ⟨g2, b3.2.1, fun _ => ?_⟩
        rw [Fq 1 (by omega)]
        exact g3
      · refine ⟨?_, b4.2.1, fun g => by omega⟩
        show F p 2 < F p 4
        omega
    · by_cases e2 : x = p
      · subst e2
        rw [Fx x hx kx e i hi, Lox x hx e, Hip]
        rw [Np] at hi ⊢
        have hi2 : i = 0 ∨ i = 1 ∨ i = 2 := by omega
        rcases hi2 with rfl | rfl | rfl
        · refine ⟨b0.1, by omega, fun _ => ?_⟩
          rw [Fx x hx kx e 1 (by omega)]; exact g0
        · refine ⟨b1.1, by omega, fun _ => ?_⟩
          rw [Fx x hx kx e 2 (by omega)]; exact g1
        · exact ⟨b2.1, Int.le_refl _, fun g => by omega⟩
      · have b := h3 x hx (old x hx kx e) i (by rw [← Nx x hx e e2]; exact hi)
        rw [Fx x hx kx e i hi, Lox x hx e, Hix x hx e e2]
        refine ⟨b.1, b.2.1, fun g => ?_⟩
        rw [Fx x hx kx e (i + 1) (by omega)]
        exact b.2.2 (by rw [← Nx x hx e e2]; exact g)
  · by_cases e : x = q
    · subst e
      rw [Lq] at lx
      rw [Nq, Hiq]
      refine ⟨by omega, fun i g => ?_⟩
      rw [Fq i (by omega)]
      exact (h4 p hp kp lx).2 (i + 3) (by omega)
    · by_cases e2 : x = p
      · subst e2
        rw [Np, Hip]
        refine ⟨by omega, fun i g => ?_⟩
        rw [Fx x hx kx e i (by omega)]
        have : i = 2 := by omega
        subst this
        rfl
      · rw [Lx x hx e] at lx
        obtain ⟨a1, a2⟩ := h4 x hx (old x hx kx e) lx
        rw [Nx x hx e e2, Hix x hx e e2]
        refine ⟨a1, fun i g => ?_⟩
        rw [Fx x hx kx e i (by rw [Nx x hx e e2]; omega)]
        exact a2 i g
  · by_cases e : x = q
    · subst e
      rw [Lq] at lx
      rw [Nq] at hi
      obtain ⟨c, c1, c2, c3, c4, c5⟩ := h5 p hp kp lx (i + 3) (by omega)
      have cq := nq c c3
      refine ⟨c, c1, by rw [Sq i hi]; exact c2, Kx c c1 c3, by rw [Lx c c1 cq, Lq]; exact c4, ?_⟩
      rw [Lox c c1 cq, c5]
      cases i with
      | zero => rw [lk_lo_0, Loq]; rfl
      | succ i => rw [lk_lo_s, lk_lo_s, Fq i (by omega)]
    · rw [Lx x hx e] at lx
      have ni : (i : Int) < N x := by
        by_cases e2 : x = p
        · subst e2; rw [Np] at hi; omega
        · rw [← Nx x hx e e2]; exact hi
      obtain ⟨c, c1, c2, c3, c4, c5⟩ := h5 x hx (old x hx kx e) lx i ni
      have cq := nq c c3
      refine ⟨c, c1, by rw [Sx x hx kx e i hi]; exact c2, Kx c c1 c3, by rw [Lx c c1 cq, Lx x hx e]; exact c4, ?_⟩
      rw [Lox c c1 cq, c5]
      cases i with
      | zero => rw [lk_lo_0, lk_lo_0, Lox x hx e]
      | succ i => rw [lk_lo_s, lk_lo_s, Fx x hx kx e i (by omega)]
  · by_cases e : x = q
    · subst e
      have ey : y ≠ x := fun z => ne z.symm
      rw [Lq, Lx y hy ey] at el
      rw [Loq, Hiq, Lox y hy ey]
      by_cases e2 : y = p
      · subst e2
        rw [Hip]
        right; omega
      · rw [Hix y hy ey e2]
        rcases h6 p y hp hy kp (old y hy ky ey) el (fun z => e2 z.symm) with g | g
        · left; exact g
        · right; omega
    · by_cases e2 : y = q
      · subst e2
        rw [Lx x hx e, Lq] at el
        rw [Loq, Hiq, Lox x hx e]
        by_cases e3 : x = p
        · subst e3
          rw [Hip]
          left; omega
        · rw [Hix x hx e e3]
          rcases h6 x p hx hp (old x hx kx e) kp el e3 with g | g
          · left; omega
          · right; exact g
      · rw [Lx x hx e, Lx y hy e2] at el
        rw [Lox x hx e, Lox y hy e2]
        have o := h6 x y hx hy (old x hx kx e) (old y hy ky e2) el ne
        by_cases e3 : x = p
        · subst e3
          rw [Hip, Hix y hy e2 (fun z => ne z.symm)]
          rcases o with g | g
          · left; omega
          · right; exact g
        · by_cases e4 : y = p
          · subst e4
            rw [Hip, Hix x hx e e3]
            rcases o with g | g
            · left; exact g
            · right; omega
          · rw [Hix x hx e e3, Hix y hy e2 e4]
            exact o
end Tree
end
section
/-! the tree: a new root, two neighbours joined or shared, an old root that goes -/
section Tree2
variable {K L Lo Hi R N K' L' Lo' Hi' R' N' : Nat → Int} {F S F' S' : Nat → Nat → Int} {rt : Nat}
theorem lk_tr_kind (h : lk_Tr K L Lo Hi R N F S rt) (e : ∀ x, x < 24 → (K' x = 1 ↔ K x = 1)) : lk_Tr K' L Lo Hi R N F S rt := by
  obtain ⟨h1, h2, h3, h4, h5, h6, h7⟩ := h
  refine ⟨fun x hx kx => h1 x hx ((e x hx).mp kx), fun x hx kx rx => ?_, fun x hx kx => h3 x hx ((e x hx).mp kx), fun x hx kx => h4 x hx ((e x hx).mp kx), fun x hx kx lx i hi => ?_, fun x y hx hy kx ky => h6 x y hx hy ((e x hx).mp kx) ((e y hy).mp ky), h7.1, (e rt h7.1).mpr h7.2.1, h7.2.2⟩
  · obtain ⟨r, r1, r2, r3, r4⟩ := h2 x hx ((e x hx).mp kx) rx
    exact ⟨r, r1, r2, (e r r1).mpr r3, r4⟩
  · obtain ⟨c, c1, c2, c3, c4⟩ := h5 x hx ((e x hx).mp kx) lx i hi
    exact ⟨c, c1, c2, (e c c1).mpr c3, c4⟩
/-- a new root over the old one -/
theorem lk_tr_rise {n : Nat} (h : lk_Tr K L Lo Hi R N F S rt) (hn : n < 24) (kn : K n ≠ 1)
    (eK : ∀ x, x < 24 → K' x = if x = n then 1 else K x) (eL : ∀ x, x < 24 → L' x = if x = n then L rt + 1 else L x)
    (eLo : ∀ x, x < 24 → Lo' x = if x = n then -1 else Lo x) (eHi : ∀ x, x < 24 → Hi' x = if x = n then 999 else Hi x)
    (eR : ∀ x, x < 24 → R' x = if x = n then -1 else R x) (eN : ∀ x, x < 24 → N' x = if x = n then 1 else N x)
    (eF : ∀ x, x < 24 → K' x = 1 → ∀ i : Nat, (i : Int) < N' x → F' x i = if x = n then 999 else F x i)
    (eS : ∀ x, x < 24 → K' x = 1 → ∀ i : Nat, (i : Int) < N' x → S' x i = if x = n then (rt : Int) else S x i) : lk_Tr K' L' Lo' Hi' R' N' F' S' n := by
  obtain ⟨h1, h2, h3, h4, h5, h6, h7⟩ := h
  have nn : ∀ x, K x = 1 → x ≠ n := fun x kx e => kn (by rw [← e]; exact kx)
  have old : ∀ x, x < 24 → K' x = 1 → x ≠ n → K x = 1 := fun x hx kx e => by rw [eK x hx, if_neg e] at kx; exact kx
  have Kx : ∀ x, x < 24 → K x = 1 → K' x = 1 := fun x hx k => by rw [eK x hx, if_neg (nn x k)]; exact k
  have Kn : K' n = 1 := by rw [eK n hn, if_pos rfl]
  have Ln : L' n = L rt + 1 := by rw [eL n hn, if_pos rfl]
  have Lon : Lo' n = -1 := by rw [eLo n hn, if_pos rfl]
  have Hin : Hi' n = 999 := by rw [eHi n hn, if_pos rfl]
  have Rn : R' n = -1 := by rw [eR n hn, if_pos rfl]
  have Nn : N' n = 1 := by rw [eN n hn, if_pos rfl]
  have Lx : ∀ x, x < 24 → x ≠ n → L' x = L x := fun x hx e => by rw [eL x hx, if_neg e]
  have Lox : ∀ x, x < 24 → x ≠ n → Lo' x = Lo x := fun x hx e => by rw [eLo x hx, if_neg e]
  have Hix : ∀ x, x < 24 → x ≠ n → Hi' x = Hi x := fun x hx e => by rw [eHi x hx, if_neg e]
  have Rx : ∀ x, x < 24 → x ≠ n → R' x = R x := fun x hx e => by rw [eR x hx, if_neg e]
  have Nx : ∀ x, x < 24 → x ≠ n → N' x = N x := fun x hx e => by rw [eN x hx, if_neg e]
  have Fx : ∀ x, x < 24 → K' x = 1 → x ≠ n → ∀ i : Nat, (i : Int) < N' x → F' x i = F x i := fun x hx kx e i hi => by rw [eF x hx kx i hi, if_neg e]
  have Sx : ∀ x, x < 24 → K' x = 1 → x ≠ n → ∀ i : Nat, (i : Int) < N' x → S' x i = S x i := fun x hx kx e i hi => by rw [eS x hx kx i hi, if_neg e]
  have art := h1 rt h7.1 h7.2.1
  refine ⟨fun x hx kx => ?_, fun x hx kx rx => ?_, fun x hx kx i hi => ?_, fun x hx kx lx => ?_, fun x hx kx lx i hi => ?_, fun x y hx hy kx ky el ne => ?_, hn, Kn, Lon⟩
  · by_cases e : x = n
    · subst e
      rw [Ln, Lon, Hin, Rn, Nn]
      exact ⟨by omega, by omega, by omega, by omega, by omega, by omega, by omega, fun _ => rfl⟩
    · have ax := h1 x hx (old x hx kx e)
      rw [Lx x hx e, Lox x hx e, Hix x hx e, Rx x hx e, Nx x hx e, Ln]
      exact ⟨ax.1, by omega, ax.2.2⟩
  · by_cases e : x = n
    · subst e; exact absurd Rn rx
    · rw [Rx x hx e] at rx ⊢
      obtain ⟨r, r1, r2, r3, r4, r5⟩ := h2 x hx (old x hx kx e) rx
      have rn := nn r r3
      exact ⟨r, r1, r2, Kx r r1 r3, by rw [Lx r r1 rn, Lx x hx e]; exact r4, by rw [Lox r r1 rn, Hix x hx e]; exact r5⟩
  · by_cases e : x = n
    · subst e
      rw [eF x hx kx i hi, if_pos rfl, Lon, Hin]
      rw [Nn] at hi ⊢
      exact ⟨by omega, by omega, fun g => by omega⟩
    · have b := h3 x hx (old x hx kx e) i (by rw [← Nx x hx e]; exact hi)
      rw [Fx x hx kx e i hi, Lox x hx e, Hix x hx e]
      refine ⟨b.1, b.2.1, fun g => ?_⟩
      rw [Fx x hx kx e (i + 1) (by omega)]
      exact b.2.2 (by rw [← Nx x hx e]; exact g)
  · by_cases e : x = n
    · subst e
      refine ⟨by rw [Nn]; omega, fun i g => ?_⟩
      rw [eF x hx kx i (by omega), if_pos rfl, Hin]
    · rw [Lx x hx e] at lx
      obtain ⟨a1, a2⟩ := h4 x hx (old x hx kx e) lx
      rw [Nx x hx e, Hix x hx e]
      refine ⟨a1, fun i g => ?_⟩
      rw [Fx x hx kx e i (by rw [Nx x hx e]; omega)]
      exact a2 i g
  · by_cases e : x = n
    · subst e
      have hrn := nn rt h7.2.1
      refine ⟨rt, h7.1, by rw [eS x hx kx i hi, if_pos rfl], Kx rt h7.1 h7.2.1, by rw [Lx rt h7.1 hrn, Ln], ?_⟩
      rw [Nn] at hi
      have : i = 0 := by omega
      subst this
      rw [lk_lo_0, Lon, Lox rt h7.1 hrn]
      exact h7.2.2
    · rw [Lx x hx e] at lx
      obtain ⟨c, c1, c2, c3, c4, c5⟩ := h5 x hx (old x hx kx e) lx i (by rw [← Nx x hx e]; exact hi)
      have cn := nn c c3
      refine ⟨c, c1, by rw [Sx x hx kx e i hi]; exact c2, Kx c c1 c3, by rw [Lx c c1 cn, Lx x hx e]; exact c4, ?_⟩
      rw [Lox c c1 cn, c5]
      cases i with
      | zero => rw [lk_lo_0, lk_lo_0, Lox x hx e]
      | succ i => rw [lk_lo_s, lk_lo_s, Fx x hx kx e i (by omega)]
  · by_cases e : x = n
    · subst e
      have ey : y ≠ x := fun z => ne z.symm
      rw [Ln, Lx y hy ey] at el
      have ay := h1 y hy (old y hy ky ey)
      omega
    · by_cases e2 : y = n
      · subst e2
        rw [Ln, Lx x hx e] at el
        have ax := h1 x hx (old x hx kx e)
        omega
      · rw [Lx x hx e, Lx y hy e2] at el
        rw [Lox x hx e, Lox y hy e2, Hix x hx e, Hix y hy e2]
        exact h6 x y hx hy (old x hx kx e) (old y hy ky e2) el ne
/-- two nodes' entries, one behind the other -/
def lk_cat (G : Nat → Nat → Int) (a b na i : Nat) : Int := if i < na then G a i else G b (i - na)
theorem lk_cat_l {G : Nat → Nat → Int} {a b na i : Nat} (h : i < na) : lk_cat G a b na i = G a i := if_pos h
theorem lk_cat_r {G : Nat → Nat → Int} {a b na i : Nat} (h : ¬ i < na) : lk_cat G a b na i = G b (i - na) := if_neg h
/-- a pair: two neighbours under P, up to date in P -/
def lk_pair (K L Lo Hi N : Nat → Int) (F S : Nat → Nat → Int) (P i a b na nb : Nat) : Prop :=
  P < 24 ∧ K P = 1 ∧ 0 < L P ∧ (i : Int) + 1 < N P ∧ S P i = a ∧ S P (i + 1) = b ∧ Hi a = F P i ∧ Hi b = F P (i + 1) ∧ N a = na ∧ N b = nb ∧ a < 24 ∧ b < 24
theorem lk_pair_facts {P i a b na nb : Nat} (h : lk_Tr K L Lo Hi R N F S rt) (hh : lk_pair K L Lo Hi N F S P i a b na nb) :
    K a = 1 ∧ K b = 1 ∧ L a + 1 = L P ∧ L b + 1 = L P ∧ Lo a = lk_lo Lo F P i ∧ Lo b = Hi a ∧ a ≠ b ∧ a ≠ P ∧ b ≠ P ∧ b ≠ rt ∧ a ≠ rt ∧ Lo a < Hi a ∧ Lo b < Hi b ∧ Hi a < 999 := by
  obtain ⟨h1, h2, h3, h4, h5, h6, h7⟩ := h
  obtain ⟨hP, kP, lP, hi, sa, sb, ia, ib, hna, hnb, ha, hb⟩ := hh
  obtain ⟨c, c1, c2, c3, c4, c5⟩ := h5 P hP kP lP i (by omega)
  have ec : c = a := by omega
  subst ec
  obtain ⟨d, d1, d2, d3, d4, d5⟩ := h5 P hP kP lP (i + 1) (by omega)
  have ed : d = b := by omega
  subst ed
  rw [lk_lo_s] at d5
  have a1 := h1 c c1 c3
  have a2 := h1 d d1 d3
  have a3 := h1 P hP kP
  exact ⟨c3, d3, c4, d4, c5, by omega, fun e => by subst e; omega, fun e => by subst e; omega, fun e => by subst e; omega, fun e => by subst e; omega, fun e => by subst e; omega, a1.2.2.2.1, a2.2.2.2.1, by omega⟩
/-- the entries of a pair, one behind the other, rise -/
theorem lk_cat_in {P i a b na nb : Nat} (h : lk_Tr K L Lo Hi R N F S rt) (hh : lk_pair K L Lo Hi N F S P i a b na nb) {j : Nat} (hj : j < na + nb) :
    Lo a < lk_cat F a b na j ∧ lk_cat F a b na j ≤ Hi b ∧ (j + 1 < na + nb → lk_cat F a b na j < lk_cat F a b na (j + 1)) := by
  obtain ⟨ka, kb, la, lb, loa, lob, nab, -, -, -, -, g1, g2, -⟩ := lk_pair_facts h hh
  obtain ⟨h1, h2, h3, h4, h5, h6, h7⟩ := h
  obtain ⟨hP, kP, lP, hi, sa, sb, ia, ib, hna, hnb, ha, hb⟩ := hh
  by_cases c1 : j < na
  · rw [lk_cat_l c1]
    have b1 := h3 a ha ka j (by omega)
    refine ⟨b1.1, by omega, fun g => ?_⟩
    by_cases c2 : j + 1 < na
    · rw [lk_cat_l c2]; exact b1.2.2 (by omega)
    · rw [lk_cat_r c2]
      have b2 := h3 b hb kb (j + 1 - na) (by omega)
      omega
  · rw [lk_cat_r c1]
    have b1 := h3 b hb kb (j - na) (by omega)
    refine ⟨by omega, b1.2.1, fun g => ?_⟩
    rw [lk_cat_r (by omega)]
    have e : j + 1 - na = j - na + 1 := by omega
    rw [e]
    exact b1.2.2 (by omega)
theorem lk_cat_mono {P i a b na nb : Nat} (h : lk_Tr K L Lo Hi R N F S rt) (hh : lk_pair K L Lo Hi N F S P i a b na nb) (j : Nat) : ∀ d : Nat, j + d + 1 < na + nb → lk_cat F a b na j < lk_cat F a b na (j + d + 1) := by
  intro d
  induction d with
  | zero => intro g; exact (lk_cat_in h hh (j := j) (by omega)).2.2 g
  | succ d ih =>
    intro g
    have x := ih (by omega)
    have y := (lk_cat_in h hh (j := j + d + 1) (by omega)).2.2 (by omega)
    have e : j + (d + 1) + 1 = j + d + 1 + 1 := by omega
    rw [e]
    omega
theorem lk_cat_le {P i a b na nb : Nat} (h : lk_Tr K L Lo Hi R N F S rt) (hh : lk_pair K L Lo Hi N F S P i a b na nb) {j k : Nat} (hjk : j ≤ k) (hk : k < na + nb) : lk_cat F a b na j ≤ lk_cat F a b na k := by
  by_cases e : j = k
  · subst e; exact Int.le_refl _
  · obtain ⟨d, rfl⟩ : ∃ d, k = j + d + 1 := ⟨k - j - 1, by omega⟩
    exact Int.le_of_lt (lk_cat_mono h hh j d hk)
/-- the children of a pair of nodes that are no leaves -/
theorem lk_cat_ch {P i a b na nb : Nat} (h : lk_Tr K L Lo Hi R N F S rt) (hh : lk_pair K L Lo Hi N F S P i a b na nb) (hl : 0 < L a) {j : Nat} (hj : j < na + nb) :
    ∃ c : Nat, c < 24 ∧ lk_cat S a b na j = c ∧ K c = 1 ∧ L c + 1 = L a ∧ Lo c = (if j = 0 then Lo a else lk_cat F a b na (j - 1)) := by
  obtain ⟨ka, kb, la, lb, loa, lob, nab, -, -, -, -, g1, g2, -⟩ := lk_pair_facts h hh
  obtain ⟨h1, h2, h3, h4, h5, h6, h7⟩ := h
  obtain ⟨hP, kP, lP, hi, sa, sb, ia, ib, hna, hnb, ha, hb⟩ := hh
  have na1 := (h4 a ha ka hl).1
  by_cases c1 : j < na
  · rw [lk_cat_l c1]
    obtain ⟨c, c1', c2, c3, c4, c5⟩ := h5 a ha ka hl j (by omega)
    refine ⟨c, c1', c2, c3, c4, ?_⟩
    rw [c5]
    cases j with
    | zero => rw [if_pos rfl]; rfl
    | succ j => rw [if_neg (by omega), lk_lo_s, Nat.add_sub_cancel, lk_cat_l (by omega)]
  · rw [lk_cat_r c1]
    obtain ⟨c, c1', c2, c3, c4, c5⟩ := h5 b hb kb (by omega) (j - na) (by omega)
    refine ⟨c, c1', c2, c3, by omega, ?_⟩
    rw [c5, if_neg (by omega)]
    by_cases e : j = na
    · subst e
      rw [Nat.sub_self, lk_lo_0, lk_cat_l (by omega), lob]
      exact ((h4 a ha ka hl).2 (j - 1) (by omega)).symm
    · rw [lk_lo_pos (by omega), lk_cat_r (by omega)]
      congr 1
      omega
/-- the pair becomes one: b goes into a -/
theorem lk_tr_merge {P i a b na nb : Nat} (h : lk_Tr K L Lo Hi R N F S rt) (hh : lk_pair K L Lo Hi N F S P i a b na nb) (h4' : na + nb ≤ 4)
    (eK : ∀ x, x < 24 → x ≠ b → K' x = K x) (kb' : K' b ≠ 1) (eHi : ∀ x, x < 24 → x ≠ b → Hi' x = if x = a then Hi b else Hi x) (eR : ∀ x, x < 24 → x ≠ b → R' x = if x = a then R b else R x)
    (eN : ∀ x, x < 24 → x ≠ b → N' x = if x = a then (na : Int) + nb else if x = P then N P - 1 else N x)
    (eF : ∀ x, x < 24 → x ≠ b → K' x = 1 → ∀ j : Nat, (j : Int) < N' x → F' x j = if x = a then lk_cat F a b na j else if x = P then (if j < i then F P j else F P (j + 1)) else F x j)
    (eS : ∀ x, x < 24 → x ≠ b → K' x = 1 → ∀ j : Nat, (j : Int) < N' x → S' x j = if x = a then lk_cat S a b na j else if x = P then (if j < i then S P j else if j = i then (a : Int) else S P (j + 1)) else S x j) : lk_Tr K' L Lo Hi' R' N' F' S' rt := by
  have cin : ∀ {j : Nat}, j < na + nb → _ := fun {j} hj => lk_cat_in h hh (j := j) hj
  have cch : ∀ (_ : 0 < L a) {j : Nat}, j < na + nb → _ := fun hl {j} hj => lk_cat_ch h hh hl (j := j) hj
  have un : ∀ {p q i j : Nat} (hp : p < 24) (hq : q < 24) (kp : K p = 1) (kq : K q = 1) (lp : 0 < L p) (lq : 0 < L q) (hi : (i : Int) < N p) (hj : (j : Int) < N q) (e : S p i = S q j), p = q ∧ i = j := fun {p q i j} => lk_uniq h
  obtain ⟨ka, kb, la, lb, loa, lob, nab, naP, nbP, nbr, nar, g1, g2, g3⟩ := lk_pair_facts h hh
  obtain ⟨h1, h2, h3, h4, h5, h6, h7⟩ := h
  obtain ⟨hP, kP, lP, hi, sa, sb, ia, ib, hna, hnb, ha, hb⟩ := hh
  have nb' : ∀ x, K' x = 1 → x ≠ b := fun x kx e => kb' (by rw [← e]; exact kx)
  have old : ∀ x, x < 24 → K' x = 1 → K x = 1 := fun x hx kx => by rw [← eK x hx (nb' x kx)]; exact kx
  have Hia : Hi' a = Hi b := by rw [eHi a ha nab, if_pos rfl]
  have Ra : R' a = R b := by rw [eR a ha nab, if_pos rfl]
  have Na : N' a = (na : Int) + nb := by rw [eN a ha nab, if_pos rfl]
  have NP : N' P = N P - 1 := by rw [eN P hP (Ne.symm nbP), if_neg (Ne.symm naP), if_pos rfl]
  have Hix : ∀ x, x < 24 → x ≠ b → x ≠ a → Hi' x = Hi x := fun x hx e e2 => by rw [eHi x hx e, if_neg e2]
  have Rx : ∀ x, x < 24 → x ≠ b → x ≠ a → R' x = R x := fun x hx e e2 => by rw [eR x hx e, if_neg e2]
  have Nx : ∀ x, x < 24 → x ≠ b → x ≠ a → x ≠ P → N' x = N x := fun x hx e e2 e3 => by rw [eN x hx e, if_neg e2, if_neg e3]
  have Ka' : K' a = 1 := by rw [eK a ha nab]; exact ka
  have KP' : K' P = 1 := by rw [eK P hP (Ne.symm nbP)]; exact kP
  have Fa : ∀ j : Nat, (j : Int) < N' a → F' a j = lk_cat F a b na j := fun j hj => by rw [eF a ha nab Ka' j hj, if_pos rfl]
  have Sa : ∀ j : Nat, (j : Int) < N' a → S' a j = lk_cat S a b na j := fun j hj => by rw [eS a ha nab Ka' j hj, if_pos rfl]
  have FP : ∀ j : Nat, (j : Int) < N' P → F' P j = if j < i then F P j else F P (j + 1) := fun j hj => by rw [eF P hP (Ne.symm nbP) KP' j hj, if_neg (Ne.symm naP), if_pos rfl]
  have SP : ∀ j : Nat, (j : Int) < N' P → S' P j = if j < i then S P j else if j = i then (a : Int) else S P (j + 1) := fun j hj => by rw [eS P hP (Ne.symm nbP) KP' j hj, if_neg (Ne.symm naP), if_pos rfl]
  have Fx : ∀ x, x < 24 → K' x = 1 → x ≠ b → x ≠ a → x ≠ P → ∀ j : Nat, (j : Int) < N' x → F' x j = F x j := fun x hx kx e e2 e3 j hj => by rw [eF x hx e kx j hj, if_neg e2, if_neg e3]
  have Sx : ∀ x, x < 24 → K' x = 1 → x ≠ b → x ≠ a → x ≠ P → ∀ j : Nat, (j : Int) < N' x → S' x j = S x j := fun x hx kx e e2 e3 j hj => by rw [eS x hx e kx j hj, if_neg e2, if_neg e3]
  have ab := h1 b hb kb
  have aa := h1 a ha ka
  refine ⟨fun x hx kx => ?_, fun x hx kx rx => ?_, fun x hx kx j hj => ?_, fun x hx kx lx => ?_, fun x hx kx lx j hj => ?_, fun x y hx hy kx ky el ne => ?_, h7.1, by rw [eK rt h7.1 (Ne.symm nbr)]; exact h7.2.1, h7.2.2⟩
  · have e := nb' x kx
    have ax := h1 x hx (old x hx kx)
    by_cases e2 : x = a
    · subst e2
      rw [Hia, Ra, Na]
      exact ⟨aa.1, aa.2.1, aa.2.2.1, by omega, ab.2.2.2.2.1, by omega, by omega, ab.2.2.2.2.2.2.2⟩
    · by_cases e3 : x = P
      · subst e3
        rw [Hix x hx e e2, Rx x hx e e2, NP]
        exact ⟨ax.1, ax.2.1, ax.2.2.1, ax.2.2.2.1, ax.2.2.2.2.1, by omega, by omega, ax.2.2.2.2.2.2.2⟩
      · rw [Hix x hx e e2, Rx x hx e e2, Nx x hx e e2 e3]
        exact ax
  · have e := nb' x kx
    by_cases e2 : x = a
    · subst e2
      rw [Ra] at rx ⊢
      obtain ⟨r, r1, r2, r3, r4, r5⟩ := h2 b hb kb rx
      have rb : r ≠ b := fun z => by subst z; omega
      exact ⟨r, r1, r2, by rw [eK r r1 rb]; exact r3, by omega, by rw [Hia]; exact r5⟩
    · rw [Rx x hx e e2] at rx ⊢
      obtain ⟨r, r1, r2, r3, r4, r5⟩ := h2 x hx (old x hx kx) rx
      have rb : r ≠ b := fun z => by
        subst z
        exact e2 (lk_samehi h1 h6 hx ha (old x hx kx) ka (by omega) (by omega))
      exact ⟨r, r1, r2, by rw [eK r r1 rb]; exact r3, r4, by rw [Hix x hx e e2]; exact r5⟩
  · have e := nb' x kx
    by_cases e2 : x = a
    · subst e2
      rw [Fa j hj, Hia]
      rw [Na] at hj ⊢
      have b1 := cin (j := j) (by omega)
      refine ⟨b1.1, b1.2.1, fun g => ?_⟩
      rw [Fa (j + 1) (by omega)]
      exact b1.2.2 (by omega)
    · by_cases e3 : x = P
      · subst e3
        rw [FP j hj, Hix x hx e e2]
        have s1 : (j : Int) + 1 < N' x → F' x (j + 1) = if j + 1 < i then F x (j + 1) else F x (j + 1 + 1) := fun g => FP (j + 1) (by omega)
        have hj' := hj
        rw [NP] at hj'
        by_cases c1 : j < i
        · rw [if_pos c1]
          have b1 := h3 x hx kP j (by omega)
          refine ⟨b1.1, b1.2.1, fun g => ?_⟩
          rw [s1 g]
          by_cases c2 : j + 1 < i
          · rw [if_pos c2]; exact b1.2.2 (by omega)
          · rw [if_neg c2]; exact lk_incl h3 hx kP (by omega) (by omega)
        · rw [if_neg c1]
          have b1 := h3 x hx kP (j + 1) (by omega)
          refine ⟨b1.1, b1.2.1, fun g => ?_⟩
          rw [s1 g, if_neg (by omega)]
          exact b1.2.2 (by omega)
      · have b1 := h3 x hx (old x hx kx) j (by rw [← Nx x hx e e2 e3]; exact hj)
        rw [Fx x hx kx e e2 e3 j hj, Hix x hx e e2]
        refine ⟨b1.1, b1.2.1, fun g => ?_⟩
        rw [Fx x hx kx e e2 e3 (j + 1) (by omega)]
        exact b1.2.2 (by rw [← Nx x hx e e2 e3]; exact g)
  · have e := nb' x kx
    by_cases e2 : x = a
    · subst e2
      have n1 := (h4 b hb kb (by omega)).1
      rw [Na, Hia]
      refine ⟨by omega, fun j g => ?_⟩
      rw [Fa j (by omega), lk_cat_r (by omega)]
      exact (h4 b hb kb (by omega)).2 (j - na) (by omega)
    · obtain ⟨a1, a2⟩ := h4 x hx (old x hx kx) lx
      rw [Hix x hx e e2]
      by_cases e3 : x = P
      · subst e3
        rw [NP]
        refine ⟨by omega, fun j g => ?_⟩
        rw [FP j (by omega), if_neg (by omega)]
        exact a2 (j + 1) (by omega)
      · rw [Nx x hx e e2 e3]
        refine ⟨a1, fun j g => ?_⟩
        rw [Fx x hx kx e e2 e3 j (by rw [Nx x hx e e2 e3]; omega)]
        exact a2 j g
  · have e := nb' x kx
    by_cases e2 : x = a
    · subst e2
      rw [Sa j hj]
      have hj' := hj
      rw [Na] at hj'
      obtain ⟨c, c1, c2, c3, c4, c5⟩ := cch lx (j := j) (by omega)
      have cb : c ≠ b := fun z => by subst z; omega
      refine ⟨c, c1, c2, by rw [eK c c1 cb]; exact c3, c4, ?_⟩
      rw [c5]
      cases j with
      | zero => rw [if_pos rfl]; rfl
      | succ j => rw [if_neg (by omega), lk_lo_s, Fa j (by omega)]; rfl
    · by_cases e3 : x = P
      · subst e3
        rw [SP j hj]
        have hj' := hj
        rw [NP] at hj'
        have fl : ∀ y : Nat, y < i → F' x y = F x y := fun y hy => by rw [FP y (by omega), if_pos hy]
        by_cases c1 : j < i
        · rw [if_pos c1]
          obtain ⟨c, c1', c2, c3, c4, c5⟩ := h5 x hx kP lP j (by omega)
          have cb : c ≠ b := fun z => by
            subst z
            have := (un hx hx kP kP lP lP (i := j) (j := i + 1) (by omega) (by omega) (by omega)).2
            omega
          refine ⟨c, c1', c2, by rw [eK c c1' cb]; exact c3, c4, ?_⟩
          rw [c5]
          cases j with
          | zero => rfl
          | succ j => rw [lk_lo_s, lk_lo_s, fl j (by omega)]
        · rw [if_neg c1]
          by_cases c2 : j = i
          · rw [if_pos c2]
            subst c2
            refine ⟨a, ha, rfl, by rw [eK a ha nab]; exact ka, la, ?_⟩
            rw [loa]
            cases j with
            | zero => rfl
            | succ j => rw [lk_lo_s, lk_lo_s, fl j (by omega)]
          · rw [if_neg c2]
            obtain ⟨c, c1', c2', c3, c4, c5⟩ := h5 x hx kP lP (j + 1) (by omega)
            have cb : c ≠ b := fun z => by
              subst z
              have := (un hx hx kP kP lP lP (i := j + 1) (j := i + 1) (by omega) (by omega) (by omega)).2
              omega
            refine ⟨c, c1', c2', by rw [eK c c1' cb]; exact c3, c4, ?_⟩
            rw [c5, lk_lo_s, lk_lo_pos (by omega), FP (j - 1) (by omega), if_neg (by omega)]
            congr 1
            omega
      · rw [Sx x hx kx e e2 e3 j hj]
        have hj' := hj
        rw [Nx x hx e e2 e3] at hj'
        obtain ⟨c, c1, c2, c3, c4, c5⟩ := h5 x hx (old x hx kx) lx j hj'
        have cb : c ≠ b := fun z => by
          subst z
          exact e3 (un hx hP (old x hx kx) kP lx lP (i := j) (j := i + 1) hj' (by omega) (by omega)).1
        refine ⟨c, c1, c2, by rw [eK c c1 cb]; exact c3, c4, ?_⟩
        rw [c5]
        cases j with
        | zero => rfl
        | succ j => rw [lk_lo_s, lk_lo_s, Fx x hx kx e e2 e3 j (by omega)]
  · have e := nb' x kx
    have e' := nb' y ky
    have o := h6 x y hx hy (old x hx kx) (old y hy ky) el ne
    by_cases e2 : x = a
    · subst e2
      rw [Hia, Hix y hy e' (Ne.symm ne)]
      have ay := h1 y hy (old y hy ky)
      have o2 := h6 b y hb hy kb (old y hy ky) (by omega) (Ne.symm e')
      rcases o with g | g
      · rcases o2 with g' | g'
        · left; exact g'
        · exfalso; omega
      · right; exact g
    · by_cases e3 : y = a
      · subst e3
        rw [Hia, Hix x hx e e2]
        have ax := h1 x hx (old x hx kx)
        have o2 := h6 x b hx hb (old x hx kx) kb (by omega) e
        rcases o with g | g
        · left; exact g
        · rcases o2 with g' | g'
          · exfalso; omega
          · right; exact g'
      · rw [Hix x hx e e2, Hix y hy e' e3]
        exact o
/-- the pair's entries are shared: a gets half of them -/
theorem lk_tr_bal {P i a b na nb half : Nat} (h : lk_Tr K L Lo Hi R N F S rt) (hh : lk_pair K L Lo Hi N F S P i a b na nb) (hf1 : 1 ≤ half) (hf2 : half < na + nb) (hf3 : half ≤ 5) (hf4 : na + nb ≤ half + 5)
    (eLo : ∀ x, x < 24 → Lo' x = if x = b then lk_cat F a b na (half - 1) else Lo x) (eHi : ∀ x, x < 24 → Hi' x = if x = a then lk_cat F a b na (half - 1) else Hi x)
    (eN : ∀ x, x < 24 → N' x = if x = a then (half : Int) else if x = b then (na : Int) + nb - half else N x)
    (eF : ∀ x, x < 24 → K x = 1 → ∀ j : Nat, (j : Int) < N' x → F' x j = if x = a then lk_cat F a b na j else if x = b then lk_cat F a b na (half + j) else if x = P ∧ j = i then lk_cat F a b na (half - 1) else F x j)
    (eS : ∀ x, x < 24 → K x = 1 → ∀ j : Nat, (j : Int) < N' x → S' x j = if x = a then lk_cat S a b na j else if x = b then lk_cat S a b na (half + j) else S x j) : lk_Tr K L Lo' Hi' R N' F' S' rt := by
  have cin : ∀ {j : Nat}, j < na + nb → _ := fun {j} hj => lk_cat_in h hh (j := j) hj
  have cle : ∀ {j k : Nat}, j ≤ k → k < na + nb → _ := fun {j k} h1 h2 => lk_cat_le h hh (j := j) (k := k) h1 h2
  have cch : ∀ (_ : 0 < L a) {j : Nat}, j < na + nb → _ := fun hl {j} hj => lk_cat_ch h hh hl (j := j) hj
  have un : ∀ {p q i j : Nat} (hp : p < 24) (hq : q < 24) (kp : K p = 1) (kq : K q = 1) (lp : 0 < L p) (lq : 0 < L q) (hi : (i : Int) < N p) (hj : (j : Int) < N q) (e : S p i = S q j), p = q ∧ i = j := fun {p q i j} => lk_uniq h
  obtain ⟨ka, kb, la, lb, loa, lob, nab, naP, nbP, nbr, nar, g1, g2, g3⟩ := lk_pair_facts h hh
  obtain ⟨h1, h2, h3, h4, h5, h6, h7⟩ := h
  obtain ⟨hP, kP, lP, hi, sa, sb, ia, ib, hna, hnb, ha, hb⟩ := hh
  have cm := cin (j := half - 1) (by omega)
  have cn := cin (j := half) (by omega)
  have cm2 := cm.2.2 (by omega)
  have e9 : half - 1 + 1 = half := by omega
  rw [e9] at cm2
  generalize hx9 : lk_cat F a b na (half - 1) = x9 at *
  have Loa : Lo' a = Lo a := by rw [eLo a ha, if_neg nab]
  have Lob : Lo' b = x9 := by rw [eLo b hb, if_pos rfl]
  have Lox : ∀ x, x < 24 → x ≠ b → Lo' x = Lo x := fun x hx e => by rw [eLo x hx, if_neg e]
  have Hia : Hi' a = x9 := by rw [eHi a ha, if_pos rfl]
  have Hix : ∀ x, x < 24 → x ≠ a → Hi' x = Hi x := fun x hx e => by rw [eHi x hx, if_neg e]
  have Na : N' a = (half : Int) := by rw [eN a ha, if_pos rfl]
  have Nb : N' b = (na : Int) + nb - half := by rw [eN b hb, if_neg (Ne.symm nab), if_pos rfl]
  have Nx : ∀ x, x < 24 → x ≠ a → x ≠ b → N' x = N x := fun x hx e e2 => by rw [eN x hx, if_neg e, if_neg e2]
  have Fa : ∀ j : Nat, (j : Int) < N' a → F' a j = lk_cat F a b na j := fun j hj => by rw [eF a ha ka j hj, if_pos rfl]
  have Fb : ∀ j : Nat, (j : Int) < N' b → F' b j = lk_cat F a b na (half + j) := fun j hj => by rw [eF b hb kb j hj, if_neg (Ne.symm nab), if_pos rfl]
  have Fx : ∀ x, x < 24 → K x = 1 → x ≠ a → x ≠ b → ¬ (x = P) → ∀ j : Nat, (j : Int) < N' x → F' x j = F x j := fun x hx kx e e2 e3 j hj => by rw [eF x hx kx j hj, if_neg e, if_neg e2, if_neg (fun z => e3 z.1)]
  have FP : ∀ j : Nat, (j : Int) < N' P → F' P j = if j = i then x9 else F P j := fun j hj => by
    rw [eF P hP kP j hj, if_neg (Ne.symm naP), if_neg (Ne.symm nbP)]
    by_cases e : j = i
    · rw [if_pos ⟨rfl, e⟩, if_pos e]
    · rw [if_neg (fun z => e z.2), if_neg e]
  have Sa : ∀ j : Nat, (j : Int) < N' a → S' a j = lk_cat S a b na j := fun j hj => by rw [eS a ha ka j hj, if_pos rfl]
  have Sb : ∀ j : Nat, (j : Int) < N' b → S' b j = lk_cat S a b na (half + j) := fun j hj => by rw [eS b hb kb j hj, if_neg (Ne.symm nab), if_pos rfl]
  have Sx : ∀ x, x < 24 → K x = 1 → x ≠ a → x ≠ b → ∀ j : Nat, (j : Int) < N' x → S' x j = S x j := fun x hx kx e e2 j hj => by rw [eS x hx kx j hj, if_neg e, if_neg e2]
  have NP : N' P = N P := Nx P hP (Ne.symm naP) (Ne.symm nbP)
  have ab := h1 b hb kb
  have aa := h1 a ha ka
  have aP := h1 P hP kP
  refine ⟨fun x hx kx => ?_, fun x hx kx rx => ?_, fun x hx kx j hj => ?_, fun x hx kx lx => ?_, fun x hx kx lx j hj => ?_, fun x y hx hy kx ky el ne => ?_, h7.1, h7.2.1, by rw [Lox rt h7.1 (Ne.symm nbr)]; exact h7.2.2⟩
  · have ax := h1 x hx kx
    by_cases e : x = a
    · subst e
      rw [Loa, Hia, Na]
      exact ⟨aa.1, aa.2.1, aa.2.2.1, cm.1, by omega, by omega, by omega, fun z => by have := aa.2.2.2.2.2.2.2 z; omega⟩
    · by_cases e2 : x = b
      · subst e2
        rw [Lob, Hix x hx e, Nb]
        exact ⟨ab.1, ab.2.1, by omega, by omega, ab.2.2.2.2.1, by omega, by omega, ab.2.2.2.2.2.2.2⟩
      · rw [Lox x hx e2, Hix x hx e, Nx x hx e e2]
        exact ax
  · obtain ⟨r, r1, r2, r3, r4, r5⟩ := h2 x hx kx rx
    by_cases e : x = a
    · subst e
      have rb : r = b := lk_samelo h1 h6 r1 hb r3 kb (by omega) (by omega)
      subst rb
      exact ⟨r, r1, r2, r3, r4, by rw [Lob, Hia]⟩
    · have rb : r ≠ b := fun z => by
        subst z
        exact e (lk_samehi h1 h6 hx ha kx ka (by omega) (by omega))
      exact ⟨r, r1, r2, r3, r4, by rw [Lox r r1 rb, Hix x hx e]; exact r5⟩
  · by_cases e : x = a
    · subst e
      rw [Fa j hj, Loa, Hia]
      have hj' := hj
      rw [Na] at hj'
      have b1 := cin (j := j) (by omega)
      have b2 := cle (j := j) (k := half - 1) (by omega) (by omega)
      rw [hx9] at b2
      refine ⟨b1.1, b2, fun g => ?_⟩
      rw [Fa (j + 1) g]
      exact b1.2.2 (by omega)
    · by_cases e2 : x = b
      · subst e2
        rw [Fb j hj, Lob, Hix x hx e]
        have hj' := hj
        rw [Nb] at hj'
        have b1 := cin (j := half + j) (by omega)
        have b2 := cle (j := half) (k := half + j) (by omega) (by omega)
        refine ⟨by omega, b1.2.1, fun g => ?_⟩
        rw [Fb (j + 1) g]
        rw [Nb] at g
        exact b1.2.2 (by omega)
      · have hj' := hj
        rw [Nx x hx e e2] at hj'
        have b1 := h3 x hx kx j hj'
        rw [Lox x hx e2, Hix x hx e]
        by_cases e3 : x = P
        · subst e3
          have s1 : (j : Int) + 1 < N' x → F' x (j + 1) = if j + 1 = i then x9 else F x (j + 1) := fun g => FP (j + 1) g
          rw [FP j hj]
          have lin := lk_lo_in h3 hx kP (i := i) (by omega)
          have bi1 := h3 x hx kP (i + 1) (by omega)
          by_cases c1 : j = i
          · subst c1
            rw [if_pos rfl]
            refine ⟨by omega, by omega, fun g => ?_⟩
            rw [s1 g, if_neg (by omega)]
            omega
          · rw [if_neg c1]
            refine ⟨b1.1, b1.2.1, fun g => ?_⟩
            rw [s1 g]
            by_cases c2 : j + 1 = i
            · rw [if_pos c2]
              have : lk_lo Lo F x i = F x j := by rw [← c2]; rfl
              omega
            · rw [if_neg c2]
              exact b1.2.2 (by rw [← NP]; exact g)
        · rw [Fx x hx kx e e2 e3 j hj]
          refine ⟨b1.1, b1.2.1, fun g => ?_⟩
          rw [Fx x hx kx e e2 e3 (j + 1) g]
          exact b1.2.2 (by rw [← Nx x hx e e2]; exact g)
  · obtain ⟨a1, a2⟩ := h4 x hx kx lx
    by_cases e : x = a
    · subst e
      rw [Na, Hia]
      refine ⟨by omega, fun j g => ?_⟩
      rw [Fa j (by omega), ← hx9]
      congr 1
      omega
    · rw [Hix x hx e]
      by_cases e2 : x = b
      · subst e2
        rw [Nb]
        refine ⟨by omega, fun j g => ?_⟩
        rw [Fb j (by omega), lk_cat_r (by omega)]
        exact a2 (half + j - na) (by omega)
      · rw [Nx x hx e e2]
        refine ⟨a1, fun j g => ?_⟩
        by_cases e3 : x = P
        · subst e3
          rw [FP j (by omega), if_neg (by omega)]
          exact a2 j g
        · rw [Fx x hx kx e e2 e3 j (by rw [Nx x hx e e2]; omega)]
          exact a2 j g
  · by_cases e : x = a
    · subst e
      rw [Sa j hj]
      have hj' := hj
      rw [Na] at hj'
      obtain ⟨c, c1, c2, c3, c4, c5⟩ := cch lx (j := j) (by omega)
      have cb : c ≠ b := fun z => by subst z; omega
      refine ⟨c, c1, c2, c3, c4, ?_⟩
      rw [Lox c c1 cb, c5]
      cases j with
      | zero => rw [if_pos rfl, lk_lo_0, Loa]
      | succ j => rw [if_neg (by omega), lk_lo_s, Fa j (by omega)]; rfl
    · by_cases e2 : x = b
      · subst e2
        rw [Sb j hj]
        have hj' := hj
        rw [Nb] at hj'
        obtain ⟨c, c1, c2, c3, c4, c5⟩ := cch (by omega) (j := half + j) (by omega)
        have cb : c ≠ x := fun z => by subst z; omega
        refine ⟨c, c1, c2, c3, by omega, ?_⟩
        rw [Lox c c1 cb, c5, if_neg (by omega)]
        cases j with
        | zero => rw [lk_lo_0, Lob]; exact hx9
        | succ j =>
          rw [lk_lo_s, Fb j (by omega)]
          congr 1
      · rw [Sx x hx kx e e2 j hj]
        have hj' := hj
        rw [Nx x hx e e2] at hj'
        obtain ⟨c, c1, c2, c3, c4, c5⟩ := h5 x hx kx lx j hj'
        by_cases e3 : x = P
        · subst e3
          by_cases c9 : j = i + 1
          · subst c9
            refine ⟨b, hb, sb, kb, lb, ?_⟩
            rw [Lob, lk_lo_s, FP i (by omega), if_pos rfl]
          · have cb : c ≠ b := fun z => by
              subst z
              have := (un hx hx kP kP lP lP (i := j) (j := i + 1) (by omega) (by omega) (by omega)).2
              omega
            refine ⟨c, c1, c2, c3, c4, ?_⟩
            rw [Lox c c1 cb, c5]
            cases j with
            | zero => rw [lk_lo_0, lk_lo_0, Lox x hx e2]
            | succ j => rw [lk_lo_s, lk_lo_s, FP j (by omega), if_neg (by omega)]
        · have cb : c ≠ b := fun z => by
            subst z
            exact e3 (un hx hP kx kP lx lP (i := j) (j := i + 1) hj' (by omega) (by omega)).1
          refine ⟨c, c1, c2, c3, c4, ?_⟩
          rw [Lox c c1 cb, c5]
          cases j with
          | zero => rw [lk_lo_0, lk_lo_0, Lox x hx e2]
          | succ j => rw [lk_lo_s, lk_lo_s, Fx x hx kx e e2 e3 j (by omega)]
  · have key : ∀ y, y < 24 → K y = 1 → L y = L a → y ≠ a → y ≠ b → (x9 ≤ Lo y ∧ Hi b ≤ Lo y) ∨ Hi y ≤ Lo a := by
      intro y hy ky el ya yb
      have ay := h1 y hy ky
      rcases h6 a y ha hy ka ky el.symm (Ne.symm ya) with g | g
      · rcases h6 b y hb hy kb ky (by omega) (Ne.symm yb) with g' | g'
        · left; exact ⟨by omega, g'⟩
        · exfalso; omega
      · right; exact g
    by_cases e : x = a
    · subst e
      by_cases e2 : y = b
      · subst e2
        left
        rw [Hia, Lob]
        exact Int.le_refl _
      · rw [Hia, Loa, Lox y hy e2, Hix y hy (Ne.symm ne)]
        rcases key y hy ky el.symm (Ne.symm ne) e2 with g | g
        · left; exact g.1
        · right; exact g
    · by_cases e2 : x = b
      · subst e2
        by_cases e3 : y = a
        · subst e3
          right
          rw [Hia, Lob]
          exact Int.le_refl _
        · rw [Lob, Hix x hx e, Lox y hy (Ne.symm ne), Hix y hy e3]
          rcases key y hy ky (by omega) e3 (Ne.symm ne) with g | g
          · left; exact g.2
          · right; omega
      · rw [Lox x hx e2, Hix x hx e]
        by_cases e3 : y = a
        · subst e3
          rw [Hia, Loa]
          rcases key x hx kx el e e2 with g | g
          · right; exact g.1
          · left; exact g
        · by_cases e4 : y = b
          · subst e4
            rw [Lob, Hix y hy e3]
            rcases key x hx kx (by omega) e e2 with g | g
            · right; exact g.2
            · left; omega
          · rw [Lox y hy e4, Hix y hy e3]
            exact h6 x y hx hy kx ky el ne
/-- a root with one entry and no neighbour goes: its child is the root -/
theorem lk_tr_shrink {c : Nat} (h : lk_Tr K L Lo Hi R N F S rt) (l1 : 0 < L rt) (r1 : R rt = -1) (hc : S rt 0 = c)
    (eK : ∀ x, x < 24 → x ≠ rt → K' x = K x) (kr : K' rt ≠ 1) : lk_Tr K' L Lo Hi R N F S c := by
  obtain ⟨h1, h2, h3, h4, h5, h6, h7⟩ := h
  have hr := h7.1
  have kr0 := h7.2.1
  obtain ⟨d, d1, d2, d3, d4, d5⟩ := h5 rt hr kr0 l1 0 (by have := (h4 rt hr kr0 l1).1; omega)
  have ed : d = c := by omega
  subst ed
  rw [lk_lo_0] at d5
  have ne : ∀ x, K' x = 1 → x ≠ rt := fun x kx e => kr (by rw [← e]; exact kx)
  have old : ∀ x, x < 24 → K' x = 1 → K x = 1 := fun x hx kx => by rw [← eK x hx (ne x kx)]; exact kx
  have art := h1 rt hr kr0
  have hi9 := art.2.2.2.2.2.2.2 r1
  have lo9 := h7.2.2
  have dr : d ≠ rt := fun e => by subst e; omega
  have low : ∀ x, x < 24 → K x = 1 → x ≠ rt → L x ≤ L d := by
    intro x hx kx e
    have ax := h1 x hx kx
    by_cases g : L x = L rt
    · exfalso
      rcases h6 x rt hx hr kx kr0 g e with g' | g' <;> omega
    · omega
  refine ⟨fun x hx kx => ?_, fun x hx kx rx => ?_, fun x hx kx => h3 x hx (old x hx kx), fun x hx kx => h4 x hx (old x hx kx), fun x hx kx lx i hi => ?_, fun x y hx hy kx ky => h6 x y hx hy (old x hx kx) (old y hy ky), d1, by rw [eK d d1 dr]; exact d3, by omega⟩
  · have ax := h1 x hx (old x hx kx)
    exact ⟨ax.1, low x hx (old x hx kx) (ne x kx), ax.2.2⟩
  · obtain ⟨r, q1, q2, q3, q4, q5⟩ := h2 x hx (old x hx kx) rx
    have ax := h1 x hx (old x hx kx)
    have e : r ≠ rt := fun z => by subst z; omega
    exact ⟨r, q1, q2, by rw [eK r q1 e]; exact q3, q4, q5⟩
  · obtain ⟨c, q1, q2, q3, q4, q5⟩ := h5 x hx (old x hx kx) lx i hi
    have ax := h1 x hx (old x hx kx)
    have e : c ≠ rt := fun z => by subst z; omega
    exact ⟨c, q1, q2, by rw [eK c q1 e]; exact q3, q4, q5⟩
end Tree2
end
section
/-! how high the tree can be: each level has a page -/
theorem lk_pigeon : ∀ (m n : Nat) (f : Nat → Nat), (∀ i, i < n → f i < m) → (∀ i j, i < n → j < n → f i = f j → i = j) → n ≤ m := by
  intro m
  induction m with
  | zero =>
    intro n f h1 h2
    cases n with
    | zero => exact Nat.le_refl _
    | succ n => exact absurd (h1 0 (by omega)) (by omega)
  | succ m ih =>
    intro n f h1 h2
    cases n with
    | zero => exact Nat.zero_le _
    | succ n =>
      have key : n ≤ m := by
        refine ih n (fun i => if f i = m then f n else f i) (fun i hi => ?_) (fun i j hi hj e => ?_)
        · have a := h1 i (by omega)
          have b := h1 n (by omega)
          by_cases c : f i = m
          · have d : f n ≠ m := fun z => by
              have := h2 i n (by omega) (by omega) (by omega)
              omega
            simp only [c, if_true]
            omega
          · simp only [c, if_false]
            omega
        · by_cases c : f i = m <;> by_cases d : f j = m
          · exact h2 i j (by omega) (by omega) (by omega)
          · simp only [c, d, if_true, if_false] at e
            have := h2 n j (by omega) (by omega) e
            omega
          · simp only [c, d, if_true, if_false] at e
            have := h2 i n (by omega) (by omega) e
            omega
          · simp only [c, d, if_false] at e
            exact h2 i j (by omega) (by omega) e
      omega
section Tree3
variable {K L Lo Hi R N : Nat → Int} {F S : Nat → Nat → Int} {rt : Nat}
theorem lk_levels (h : lk_Tr K L Lo Hi R N F S rt) : ∀ d : Nat, (d : Int) ≤ L rt → ∃ p : Nat, p < 24 ∧ K p = 1 ∧ L p = L rt - d := by
  obtain ⟨h1, h2, h3, h4, h5, h6, h7⟩ := h
  intro d
  induction d with
  | zero => intro _; exact ⟨rt, h7.1, h7.2.1, by omega⟩
  | succ d ih =>
    intro g
    obtain ⟨p, p1, p2, p3⟩ := ih (by omega)
    have a := (h4 p p1 p2 (by omega)).1
    obtain ⟨c, c1, c2, c3, c4, c5⟩ := h5 p p1 p2 (by omega) 0 (by omega)
    exact ⟨c, c1, c3, by omega⟩
theorem lk_height (h : lk_Tr K L Lo Hi R N F S rt) : L rt ≤ 23 := by
  have hl := lk_levels h
  have h0 : 0 ≤ L rt := (h.1 rt h.2.2.2.2.2.2.1 h.2.2.2.2.2.2.2.1).1
  obtain ⟨n, hn⟩ : ∃ n : Nat, L rt = n := ⟨(L rt).toNat, by omega⟩
  have ex : ∀ d : Nat, ∃ p : Nat, d < n + 1 → p < 24 ∧ K p = 1 ∧ L p = L rt - d := by
    intro d
    by_cases g : d < n + 1
    · obtain ⟨p, hp⟩ := hl d (by omega)
      exact ⟨p, fun _ => hp⟩
    · exact ⟨0, fun z => absurd z g⟩
  have := lk_pigeon 24 (n + 1) (fun d => Classical.choose (ex d)) (fun i hi => (Classical.choose_spec (ex i) hi).1) (fun i j hi hj e => by
    have a := (Classical.choose_spec (ex i) hi).2.2
    have b := (Classical.choose_spec (ex j) hj).2.2
    have e' : Classical.choose (ex i) = Classical.choose (ex j) := e
    rw [e'] at a
    omega)
  omega
theorem lk_height_free (h : lk_Tr K L Lo Hi R N F S rt) {q : Nat} (hq : q < 24) (kq : K q ≠ 1) : L rt ≤ 22 := by
  have hl := lk_levels h
  have h0 : 0 ≤ L rt := (h.1 rt h.2.2.2.2.2.2.1 h.2.2.2.2.2.2.2.1).1
  obtain ⟨n, hn⟩ : ∃ n : Nat, L rt = n := ⟨(L rt).toNat, by omega⟩
  have ex : ∀ d : Nat, ∃ p : Nat, d < n + 1 → p < 24 ∧ K p = 1 ∧ L p = L rt - d := by
    intro d
    by_cases g : d < n + 1
    · obtain ⟨p, hp⟩ := hl d (by omega)
      exact ⟨p, fun _ => hp⟩
    · exact ⟨0, fun z => absurd z g⟩
  have sp : ∀ d : Nat, d < n + 1 → _ := fun d hd => Classical.choose_spec (ex d) hd
  have := lk_pigeon 24 (n + 2) (fun d => if d = n + 1 then q else Classical.choose (ex d)) (fun i hi => by
    by_cases c : i = n + 1
    · simp only [c, if_true]; exact hq
    · simp only [c, if_false]; exact (sp i (by omega)).1) (fun i j hi hj e => by
    by_cases c : i = n + 1 <;> by_cases d : j = n + 1
    · omega
    · simp only [c, d, if_true, if_false] at e
      exact absurd ((sp j (by omega)).2.1) (by rw [← e]; exact kq)
    · simp only [c, d, if_true, if_false] at e
      exact absurd ((sp i (by omega)).2.1) (by rw [e]; exact kq)
    · simp only [c, d, if_false] at e
      have a := (sp i (by omega)).2.2
      have b := (sp j (by omega)).2.2
      rw [e] at a
      omega)
  omega
end Tree3
end
