/-! steps compose; a task ends -/
theorem lk_Ev_tr {M M1 M2 : lk_M} {t : Nat} (h1 : lk_Ev M M1 t) (h2 : lk_Ev M1 M2 t) : lk_Ev M M2 t := by
  obtain ⟨s1, p1, q1⟩ := h1
  obtain ⟨s2, p2, q2⟩ := h2
  have e : ∀ u, u < 4 → u ≠ t → ∀ f, 11 ≤ f → f ≤ 18 → M1 f u = M f u := fun u hu hn f a b => (s1 u hu hn).1 f a b
  refine ⟨lk_same_tr s1 s2, fun x hx => ⟨fun k => ?_, fun k u hu hn hb hw => ?_⟩, fun u hu hn hb ho q hq e18 k nc e2 => ?_⟩
  · rcases (p1 x hx).1 k with ⟨a, b⟩ | a
    · rcases (p2 x hx).1 a with ⟨c, d⟩ | c
      · exact Or.inl ⟨c, d.trans b⟩
      · exact Or.inr (fun u hu hn hb => c u hu hn (by rw [e u hu hn 11 (by decide) (by decide)]; exact hb))
    · exact Or.inr (fun u hu hn hb => by
        obtain ⟨a1, a2⟩ := a u hu hn hb
        exact (p2 x hx).2 a1 u hu hn (by rw [e u hu hn 11 (by decide) (by decide)]; exact hb) a2)
  · obtain ⟨a1, a2⟩ := (p1 x hx).2 k u hu hn hb hw
    exact (p2 x hx).2 a1 u hu hn (by rw [e u hu hn 11 (by decide) (by decide)]; exact hb) a2
  · obtain ⟨a1, a2, a3⟩ := q1 u hu hn hb ho q hq e18 k nc e2
    have z := q2 u hu hn (by rw [e u hu hn 11 (by decide) (by decide)]; exact hb) (by rw [e u hu hn 12 (by decide) (by decide)]; exact ho) q hq (by rw [e u hu hn 18 (by decide) (by decide)]; exact e18) a1 a3 (by rw [a2, e u hu hn 15 (by decide) (by decide)]; exact e2)
    exact ⟨z.1, z.2.1.trans a2, z.2.2⟩
theorem lk_Ev_rf (M : lk_M) (t : Nat) : lk_Ev M M t := lk_pq_Ev ⟨fun _ _ => rfl, rfl, rfl, rfl, rfl, rfl, rfl⟩ (lk_same_rf M t)
theorem lk_st_fn {M : lk_M} {f i g : Nat} {v : Int32} (h : g ≠ f) : lk_st M f i v g = M g := by funext j; exact lk_st_f h
theorem lk_TK_6 {M : lk_M} {t p : Nat} {v : Int32} (h : lk_TK M t) : lk_TK (lk_st M 6 p v) t := by
  unfold lk_TK lk_al lk_PO lk_nc lk_zi lk_zf at h ⊢
  rw [lk_st_fn (g := 0) (by decide), lk_st_fn (g := 1) (by decide), lk_st_fn (g := 2) (by decide), lk_st_fn (g := 5) (by decide), lk_st_fn (g := 8) (by decide), lk_st_fn (g := 9) (by decide), lk_st_fn (g := 12) (by decide), lk_st_fn (g := 13) (by decide), lk_st_fn (g := 14) (by decide), lk_st_fn (g := 15) (by decide), lk_st_fn (g := 16) (by decide), lk_st_fn (g := 18) (by decide), lk_st_fn (g := 19) (by decide)]
  exact h
theorem lk_Inv_rel {M M' : lk_M} {t p : Nat} (h : lk_Inv M) (ht : t < 4) (hp : p < 24) (hpl : M 14 t = nI p) (hev : lk_Ev M M' t) (hti : lk_TI M') (e6 : ∀ x, x ≠ p → M' 6 x = M 6 x) (hbu : (M' 11 t = 0 ∨ M' 11 t = 1) ∧ (M' 20 t = 0 ∨ M' 20 t = 1)) (htk : M' 11 t = 1 → lk_TK M' t) (hp2 : M' 11 t = 1 → M' 12 t = 4 → ∀ u, u < 4 → u ≠ t → M 11 u = 1 → M 12 u = 4 → M' 18 t ≠ M 18 u) : lk_Inv (lk_st M' 6 p (-1)) := by
  have hev2 : lk_Ev M (lk_st M' 6 p (-1)) t := lk_Ev_tr hev (lk_pq_Ev (lk_st_pq (Or.inr rfl)) (lk_st_same (Or.inl (by decide))))
  have e : ∀ f i, f ≠ 6 → lk_st M' 6 p (-1) f i = M' f i := fun f i hf => lk_st_f hf
  refine lk_Inv_step h ht hev2 (lk_pq_TI (lk_st_pq (Or.inr rfl)) hti) (lk_OW_rel h.2.2.2.1 ht hp hev2.1 hpl (fun x hx => (lk_st_p hx).trans (e6 x hx)) lk_st_s) ?_ ?_ ?_
  · rw [e 11 t (by decide), e 20 t (by decide)]; exact hbu
  · rw [e 11 t (by decide)]; exact fun z => lk_TK_6 (htk z)
  · rw [e 11 t (by decide), e 12 t (by decide), e 18 t (by decide)]; exact hp2
theorem lk_fin_at (M : lk_M) (t : Nat) (a : Int32) (f i : Nat) : mm_fin M t a f i = if f = 0 then (if i < 24 ∧ M 0 i = 2 ∧ M 9 i &&& lk_off t = 0 then 0 else M 0 i) else if f = 9 then (if i < 24 then M 9 i &&& lk_off t else M 9 i) else if f = 11 ∧ i = t then 0 else if f = 20 ∧ i = t then 1 else if f = 21 ∧ i = t then a else M f i := by
  unfold mm_fin mm_finL
  simp only [lk_st_eq, lk_up_eq]
  by_cases h0 : f = 0
  · subst h0; simp
  · rw [if_neg h0, if_neg h0]
    by_cases h9 : f = 9
    · subst h9; simp
    · rw [if_neg h9, if_neg h9]
theorem lk_fin_f {M : lk_M} {t : Nat} {a : Int32} {f : Nat} (h0 : f ≠ 0) (h9 : f ≠ 9) (h11 : f ≠ 11) (h20 : f ≠ 20) (h21 : f ≠ 21) : mm_fin M t a f = M f := by
  funext i
  rw [lk_fin_at, if_neg h0, if_neg h9, if_neg (fun z => h11 z.1), if_neg (fun z => h20 z.1), if_neg (fun z => h21 z.1)]
theorem lk_fin_k {M : lk_M} {t : Nat} {a : Int32} {x : Nat} : mm_fin M t a 0 x = 1 ↔ M 0 x = 1 := by
  rw [lk_fin_at, if_pos rfl]
  by_cases c : x < 24 ∧ M 0 x = 2 ∧ M 9 x &&& lk_off t = 0
  · rw [if_pos c, c.2.1]; decide
  · rw [if_neg c]
theorem lk_fin_2 {M : lk_M} {t : Nat} {a : Int32} {x : Nat} (h : mm_fin M t a 0 x = 2) : M 0 x = 2 := by
  rw [lk_fin_at, if_pos rfl] at h
  by_cases c : x < 24 ∧ M 0 x = 2 ∧ M 9 x &&& lk_off t = 0
  · exact c.2.1
  · rw [if_neg c] at h; exact h
theorem lk_fin_9 {M : lk_M} {t : Nat} {a : Int32} {x : Nat} (hx : x < 24) : mm_fin M t a 9 x = M 9 x &&& lk_off t := by
  rw [lk_fin_at, if_neg (by decide), if_pos rfl, if_pos hx]
theorem lk_zk {M M' : lk_M} (h : ∀ x, x < 24 → (M' 0 x = 1 ↔ M 0 x = 1)) : ∀ x, x < 24 → (lk_zi M' 0 x = 1 ↔ lk_zi M 0 x = 1) := fun x hx => lk_z1.trans ((h x hx).trans lk_z1.symm)
theorem lk_fin_TI {M : lk_M} {t : Nat} {a : Int32} (h : lk_TI M) (ht : t < 4) : lk_TI (mm_fin M t a) := by
  obtain ⟨⟨rt, h1, h2⟩, h3, h4, h5, h6⟩ := h
  have e : ∀ f, f ≠ 0 → f ≠ 9 → f ≠ 11 → f ≠ 20 → f ≠ 21 → mm_fin M t a f = M f := fun f a b c d e => lk_fin_f a b c d e
  have e1 := e 1 (by decide) (by decide) (by decide) (by decide) (by decide)
  have e2 := e 2 (by decide) (by decide) (by decide) (by decide) (by decide)
  have e3 := e 3 (by decide) (by decide) (by decide) (by decide) (by decide)
  have e4 := e 4 (by decide) (by decide) (by decide) (by decide) (by decide)
  have e5 := e 5 (by decide) (by decide) (by decide) (by decide) (by decide)
  have e7 := e 7 (by decide) (by decide) (by decide) (by decide) (by decide)
  have e8 := e 8 (by decide) (by decide) (by decide) (by decide) (by decide)
  have e10 := e 10 (by decide) (by decide) (by decide) (by decide) (by decide)
  have e24 := e 24 (by decide) (by decide) (by decide) (by decide) (by decide)
  refine ⟨⟨rt, by rw [e24]; exact h1, ?_⟩, ?_, ?_, ?_, ?_⟩
  · have := lk_tr_kind (K' := lk_zi (mm_fin M t a) 0) h2 (lk_zk (fun x _ => lk_fin_k))
    unfold lk_TR
    unfold lk_zi lk_zf at this ⊢
    rw [e1, e2, e3, e4, e5, e7, e8]
    exact this
  · intro p hp k
    rw [e5]
    exact h3 p hp (lk_fin_k.mp k)
  · obtain ⟨n, hn, q1, q2⟩ := h4
    refine ⟨n, hn, by rw [e24]; exact q1, fun i hi => ?_⟩
    obtain ⟨x, hx, y1, y2⟩ := q2 i hi
    exact ⟨x, hx, by rw [e10]; exact y1, lk_fin_k.mpr y2⟩
  · intro p hp k
    obtain ⟨b, hb, eb⟩ := h5 p hp (lk_fin_2 k)
    obtain ⟨c, hc, ec, -⟩ := lk_bits b hb t ht
    exact ⟨c, hc, by rw [lk_fin_9 hp, eb]; exact ec⟩
  · intro p hp
    rw [lk_fin_at, if_pos rfl]
    by_cases c : p < 24 ∧ M 0 p = 2 ∧ M 9 p &&& lk_off t = 0
    · rw [if_pos c]; exact Or.inl rfl
    · rw [if_neg c]; exact h6 p hp
theorem lk_fin_Ev {M : lk_M} {t : Nat} {a : Int32} (h5 : lk_AW M) (ht : t < 4) : lk_Ev M (mm_fin M t a) t := by
  refine ⟨fun u hu hn => ⟨fun f f1 f2 => ?_, ?_, fun i hi => ?_⟩, fun x hx => ⟨fun k => Or.inl ⟨lk_fin_k.mpr k, ?_⟩, fun k u hu hn hb hw => ?_⟩, fun u hu hn hb ho q hq e18 k nc e2 => ⟨lk_fin_k.mpr k, ?_, ?_⟩⟩
  · rw [lk_fin_at, if_neg (by omega), if_neg (by omega), if_neg (fun z => hn z.2), if_neg (fun z => hn z.2), if_neg (fun z => hn z.2)]
  · rw [lk_fin_at, if_neg (by decide), if_neg (by decide), if_neg (fun z => hn z.2), if_neg (fun z => hn z.2), if_neg (fun z => hn z.2)]
  · rw [lk_fin_f (by decide) (by decide) (by decide) (by decide) (by decide)]
  · rw [lk_fin_f (by decide) (by decide) (by decide) (by decide) (by decide)]
  · obtain ⟨b, hb2, eb⟩ := h5 x hx k
    obtain ⟨c, hc, ec, hu2⟩ := lk_bits b hb2 t ht
    rw [eb] at hw
    have hw2 := hu2 u hu hn hw
    rw [lk_fin_9 hx, eb, ec]
    refine ⟨?_, hw2⟩
    rw [lk_fin_at, if_pos rfl, if_neg]
    · exact k
    · rintro ⟨-, -, z⟩
      rw [eb, ec] at z
      rw [z] at hw2
      exact lk_bit0 u hu hw2
  · rw [lk_fin_f (by decide) (by decide) (by decide) (by decide) (by decide)]
  · intro p i hp kp lp hi
    unfold lk_zi lk_zf at *
    rw [lk_fin_f (f := 1) (by decide) (by decide) (by decide) (by decide) (by decide)] at lp
    rw [lk_fin_f (f := 5) (by decide) (by decide) (by decide) (by decide) (by decide)] at hi
    rw [lk_fin_f (f := 8) (by decide) (by decide) (by decide) (by decide) (by decide)]
    exact nc p i hp (lk_z1.mpr (lk_fin_k.mp (lk_z1.mp kp))) lp hi
theorem lk_fin_11 {M : lk_M} {t : Nat} {a : Int32} : mm_fin M t a 11 t = 0 ∧ mm_fin M t a 20 t = 1 := by
  rw [lk_fin_at, lk_fin_at]
  simp
theorem lk_Inv_fin {M M1 : lk_M} {t : Nat} {a : Int32} (h : lk_Inv M) (ht : t < 4) (hev : lk_Ev M M1 t) (hti : lk_TI M1) (e6 : ∀ x, M1 6 x = M 6 x) (h2 : M 13 t ≠ 2) : lk_Inv (mm_fin M1 t a) := by
  have hev2 := lk_Ev_tr hev (lk_fin_Ev (a := a) hti.2.2.2.1 ht)
  have e11 := lk_fin_11 (M := M1) (t := t) (a := a)
  refine lk_Inv_step h ht hev2 (lk_fin_TI hti ht) (lk_OW_go h.2.2.2.1 ht hev2.1 (fun x => ?_) h2) ⟨Or.inl e11.1, Or.inr e11.2⟩ (fun z => ?_) (fun z => ?_)
  · rw [lk_fin_f (by decide) (by decide) (by decide) (by decide) (by decide)]; exact e6 x
  · rw [e11.1] at z; exact absurd z (by decide)
  · rw [e11.1] at z; exact absurd z (by decide)
theorem lk_Inv_fin2 {M M1 : lk_M} {t p : Nat} {a : Int32} (h : lk_Inv M) (ht : t < 4) (hp : p < 24) (hpl : M 14 t = nI p) (hev : lk_Ev M M1 t) (hti : lk_TI M1) (e6 : ∀ x, x ≠ p → M1 6 x = M 6 x) : lk_Inv (lk_st (mm_fin M1 t a) 6 p (-1)) := by
  have hev2 := lk_Ev_tr hev (lk_fin_Ev (a := a) hti.2.2.2.1 ht)
  have e11 := lk_fin_11 (M := M1) (t := t) (a := a)
  refine lk_Inv_rel h ht hp hpl hev2 (lk_fin_TI hti ht) (fun x hx => ?_) ⟨Or.inl e11.1, Or.inr e11.2⟩ (fun z => ?_) (fun z => ?_)
  · rw [lk_fin_f (by decide) (by decide) (by decide) (by decide) (by decide)]; exact e6 x hx
  · rw [e11.1] at z; exact absurd z (by decide)
  · rw [e11.1] at z; exact absurd z (by decide)
