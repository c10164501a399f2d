/-! the memory of a tree: a field's number and a place in it. 0 kind, 1 level, 2 low, 3 high, 4 right, 5 count, 6 who locks it, 7 first and 8 second (five places a page), 9 awaited (all of a page); 10 the queue;
11 busy (in the class: idle), 12 operation, 13 phase, 14 place, 15 key, 16 wanted level, 17 value, 18 page that it is about, 19 path (32 places a task), 20 answered, 21 answer, 22 counts (four places a task: all of a task); 23 a stack of pages; 24: root, queued, thrown -/
abbrev lk_M : Type := Nat → Nat → Int32
def lk_st (σ : lk_M) (a i : Nat) (v : Int32) : lk_M := va_up σ a (upd (σ a) i v)
theorem lk_st_eq (σ : lk_M) (a i : Nat) (v : Int32) (b j : Nat) : lk_st σ a i v b j = if b = a ∧ j = i then v else σ b j := by
  unfold lk_st va_up upd
  by_cases h : b = a
  · subst h
    by_cases h2 : j = i
    · simp [h2]
    · simp [h2]
  · simp [h]
theorem lk_up_eq (σ : lk_M) (a : Nat) (f : Nat → Int32) (b j : Nat) : va_up σ a f b j = if b = a then f j else σ b j := by
  unfold va_up
  by_cases h : b = a
  · simp [h]
  · simp [h]
/-- the entries from lo to hi - 1 go one place up, x comes to lo -/
def lk_shR (f : Nat → Int32) (lo hi : Nat) (x : Int32) : Nat → Int32 := fun i => if i = lo then x else if lo < i ∧ i ≤ hi then f (i - 1) else f i
/-- the entries from lo + 1 to hi go one place down -/
def lk_shL (f : Nat → Int32) (lo hi : Nat) : Nat → Int32 := fun i => if lo ≤ i ∧ i < hi then f (i + 1) else f i
def lk_ins (σ : lk_M) (p k n : Nat) (a b : Int32) : lk_M :=
  va_up (va_up (va_up σ 7 (lk_shR (σ 7) (5 * p + k) (5 * p + n) a)) 8 (lk_shR (σ 8) (5 * p + k) (5 * p + n) b)) 5 (upd (σ 5) p (nI (n + 1)))
def lk_del (σ : lk_M) (p k n : Nat) : lk_M :=
  va_up (va_up (va_up σ 7 (lk_shL (σ 7) (5 * p + k) (5 * p + (n - 1)))) 8 (lk_shL (σ 8) (5 * p + k) (5 * p + (n - 1)))) 5 (upd (σ 5) p (nI (n - 1)))
def lk_mk (σ : lk_M) (p : Nat) (l lo hi r : Int32) : lk_M :=
  lk_st (lk_st (lk_st (lk_st (lk_st (lk_st (lk_st σ 0 p 1) 1 p l) 2 p lo) 3 p hi) 4 p r) 5 p 0) 6 p (-1)
/-- how many places from b on are below k, at most n -/
def lk_fr (f : Nat → Int32) (k : Int32) : Nat → Nat → Nat
  | 0, _ => 0
  | n + 1, b => if f b < k then lk_fr f k n (b + 1) + 1 else 0
theorem lk_fr_le (f : Nat → Int32) (k : Int32) : ∀ (n b : Nat), lk_fr f k n b ≤ n := by
  intro n
  induction n with
  | zero => intro b; exact Nat.le_refl _
  | succ n ih =>
    intro b
    unfold lk_fr
    by_cases h : f b < k
    · rw [if_pos h]; have := ih (b + 1); omega
    · rw [if_neg h]; omega
theorem lk_fr_lt (f : Nat → Int32) (k : Int32) : ∀ (n b j : Nat), j < lk_fr f k n b → f (b + j) < k := by
  intro n
  induction n with
  | zero => intro b j h; exact absurd h (by unfold lk_fr; omega)
  | succ n ih =>
    intro b j h
    unfold lk_fr at h
    by_cases c : f b < k
    · rw [if_pos c] at h
      cases j with
      | zero => exact c
      | succ j =>
        have := ih (b + 1) j (by omega)
        rw [show b + (j + 1) = b + 1 + j by omega]
        exact this
    · rw [if_neg c] at h
      omega
theorem lk_fr_ge (f : Nat → Int32) (k : Int32) : ∀ (n b : Nat), lk_fr f k n b < n → ¬ f (b + lk_fr f k n b) < k := by
  intro n
  induction n with
  | zero => intro b h; omega
  | succ n ih =>
    intro b h
    unfold lk_fr at h ⊢
    by_cases c : f b < k
    · rw [if_pos c] at h ⊢
      have := ih (b + 1) (by omega)
      rw [show b + (lk_fr f k n (b + 1) + 1) = b + 1 + lk_fr f k n (b + 1) by omega]
      exact this
    · rw [if_neg c]
      exact c
/-- the first place from b on, of n, that holds x; or b + n -/
def lk_ff (f : Nat → Int32) (x : Int32) : Nat → Nat → Nat
  | 0, b => b
  | n + 1, b => if f b = x then b else lk_ff f x n (b + 1)
theorem lk_ff_le (f : Nat → Int32) (x : Int32) : ∀ (n b : Nat), b ≤ lk_ff f x n b ∧ lk_ff f x n b ≤ b + n := by
  intro n
  induction n with
  | zero => intro b; unfold lk_ff; omega
  | succ n ih =>
    intro b
    unfold lk_ff
    by_cases h : f b = x
    · rw [if_pos h]; omega
    · rw [if_neg h]; have := ih (b + 1); omega
theorem lk_ff_at (f : Nat → Int32) (x : Int32) : ∀ (n b : Nat), lk_ff f x n b < b + n → f (lk_ff f x n b) = x := by
  intro n
  induction n with
  | zero => intro b h; unfold lk_ff at h; omega
  | succ n ih =>
    intro b h
    unfold lk_ff at h ⊢
    by_cases c : f b = x
    · rw [if_pos c]; exact c
    · rw [if_neg c] at h ⊢
      exact ih (b + 1) (by omega)
theorem lk_ff_no (f : Nat → Int32) (x : Int32) : ∀ (n b j : Nat), b ≤ j → j < lk_ff f x n b → f j ≠ x := by
  intro n
  induction n with
  | zero => intro b j h1 h2; unfold lk_ff at h2; omega
  | succ n ih =>
    intro b j h1 h2
    unfold lk_ff at h2
    by_cases c : f b = x
    · rw [if_pos c] at h2; omega
    · rw [if_neg c] at h2
      by_cases e : j = b
      · rw [e]; exact c
      · exact ih (b + 1) j (by omega) h2
/-- a place as a number, or -1 -/
def lk_nn (j n : Nat) : Int32 := if j < n then nI j else -1
def lk_free (σ : lk_M) : Nat := lk_ff (σ 0) 0 24 0
/-- the queue: is it there; it comes; it goes -/
def lk_has (f : Nat → Int32) (x : Int32) (n : Nat) : Prop := ∃ i, i < n ∧ f i = x
def lk_cmp (f : Nat → Int32) (x : Int32) : Nat → (Nat → Int32) × Nat
  | 0 => (f, 0)
  | i + 1 => if (lk_cmp f x i).1 i = x then lk_cmp f x i else (upd (lk_cmp f x i).1 (lk_cmp f x i).2 ((lk_cmp f x i).1 i), (lk_cmp f x i).2 + 1)
theorem lk_cmp_le (f : Nat → Int32) (x : Int32) : ∀ i, (lk_cmp f x i).2 ≤ i := by
  intro i
  induction i with
  | zero => exact Nat.le_refl _
  | succ i ih =>
    unfold lk_cmp
    by_cases h : (lk_cmp f x i).1 i = x
    · rw [if_pos h]; omega
    · rw [if_neg h]; show (lk_cmp f x i).2 + 1 ≤ i + 1; omega
noncomputable def lk_cq (σ : lk_M) (x : Int32) (n : Nat) : lk_M := @ite _ (lk_has (σ 10) x n ∨ n = 12) (Classical.propDecidable _) σ (lk_st (lk_st σ 10 n x) 24 1 (nI (n + 1)))
def lk_lq (σ : lk_M) (x : Int32) (n : Nat) : lk_M := va_up (va_up σ 10 (lk_cmp (σ 10) x n).1) 24 (upd (σ 24) 1 (nI (lk_cmp (σ 10) x n).2))
/-- a task's bit; all but a task's -/
def lk_bit (t : Nat) : Int32 := (1 : Int32) <<< (nI t &&& 31)
def lk_off (t : Nat) : Int32 := lk_bit t ^^^ (-1)
/-- the bits of the first n tasks that b names, but one -/
noncomputable def lk_mask (b : Nat → Prop) (t0 : Nat) : Nat → Int32
  | 0 => 0
  | t + 1 => @ite _ (b t ∧ t ≠ t0) (Classical.propDecidable _) (lk_mask b t0 t ||| lk_bit t) (lk_mask b t0 t)
/-- no path; a search from x; a restart; to the right -/
def lk_nop (σ : lk_M) (t : Nat) : lk_M := va_up σ 19 (fun i => if 32 * t ≤ i ∧ i < 32 * t + 32 then -1 else σ 19 i)
def lk_srch (σ : lk_M) (t : Nat) (x : Int32) : lk_M := lk_st (lk_st σ 13 t 0) 14 t x
def lk_rst (σ : lk_M) (t : Nat) : lk_M := lk_st (lk_srch (lk_nop σ t) t (σ 24 0)) 22 (4 * t + 3) (σ 22 (4 * t + 3) + 1)
def lk_rgt (σ : lk_M) (t p : Nat) : lk_M := lk_st (lk_st σ 14 t (σ 4 p)) 22 (4 * t + 2) (σ 22 (4 * t + 2) + 1)
