/-! each call of the law: both sides answer alike -/
def lk_opI (l : Launch) (D : va_G) (τ : Nat → ClassId) (adC adM : Nat → Nat) (yW : MethodName) (bW : ByteArray) (nW : Nat) (hh : List (Nat × Nat × Nat × Nat)) (avW : List Value) (yM : MethodName) (bM : ByteArray) (nM frM loM : Nat) (avM : List Value) (C M : lk_M) : Prop :=
  ∃ (r : Int32) (C' : lk_M) (pW pM : Int32 → lk_M → Prop), lk_Lw l D τ adC yW bW nW hh 40 1000 avW C pW ∧ (∀ r1 C1, pW r1 C1 → r1 = r ∧ C1 = C') ∧ lk_Ci l D τ 25 adM (lk_me τ adM) yM bM nM .int frM loM avM M pM ∧ ∀ r1 M1, pM r1 M1 → M1 24 2 = r ∧ (r = 0 → C' 25 0 = r1) ∧ lk_SX 24 C' M1 ∧ lk_Inv M1
def lk_opV (l : Launch) (D : va_G) (τ : Nat → ClassId) (adC adM : Nat → Nat) (yW : MethodName) (bW : ByteArray) (nW : Nat) (hh : List (Nat × Nat × Nat × Nat)) (avW : List Value) (yM : MethodName) (bM : ByteArray) (nM frM loM : Nat) (avM : List Value) (C M : lk_M) : Prop :=
  ∃ (r : Int32) (C' : lk_M) (pW : Int32 → lk_M → Prop) (pM : lk_M → Prop), lk_Lw l D τ adC yW bW nW hh 40 1000 avW C pW ∧ (∀ r1 C1, pW r1 C1 → r1 = r ∧ C1 = C') ∧ lk_Cv l D τ 25 adM (lk_me τ adM) yM bM nM frM loM avM M pM ∧ ∀ M1, pM M1 → M1 24 2 = r ∧ lk_SX 24 C' M1 ∧ lk_Inv M1
section Ops
variable {l : Launch} {D : va_G} {τ : Nat → ClassId} {adC adM : Nat → Nat} {C M : lk_M}
theorem lk_n0 {x : Int32} (h : x = 1 ∨ x = 2) : ¬ x = 0 := by rcases h with h | h <;> rw [h] <;> decide
/-- a throw on both sides -/
theorem lk_opI_x {yW : MethodName} {bW : ByteArray} {nW : Nat} {hh : List (Nat × Nat × Nat × Nat)} {avW : List Value} {yM : MethodName} {bM : ByteArray} {nM frM loM : Nat} {avM : List Value} (s : lk_SX 24 C M) (h : lk_Inv M) {v : Int32} (hv : v = 1 ∨ v = 2) (hW : lk_Lw l D τ adC yW bW nW hh 40 1000 avW C (fun r M1 => r = v ∧ M1 = lk_st C 25 0 (C 25 0))) (hM : lk_Ci l D τ 25 adM (lk_me τ adM) yM bM nM .int frM loM avM M (fun r M1 => r = 0 ∧ M1 = lk_st M 24 2 v)) : lk_opI l D τ adC adM yW bW nW hh avW yM bM nM frM loM avM C M :=
  ⟨v, _, _, _, hW, fun _ _ z => z, hM, fun r1 M1 z => by
    rw [z.2]
    exact ⟨lk_st_s, fun w => absurd w (lk_n0 hv), s.box.thr, lk_Inv_thr h⟩⟩
/-- an answer on both sides, memories as they were -/
theorem lk_opI_r {yW : MethodName} {bW : ByteArray} {nW : Nat} {hh : List (Nat × Nat × Nat × Nat)} {avW : List Value} {yM : MethodName} {bM : ByteArray} {nM frM loM : Nat} {avM : List Value} (s : lk_SX 24 C M) (h : lk_Inv M) {a b : Int32} (hab : a = b) (hW : lk_Lw l D τ adC yW bW nW hh 40 1000 avW C (fun r M1 => r = 0 ∧ ∃ a1 M2, (a1 = a ∧ M2 = C) ∧ M1 = lk_st M2 25 0 a1)) (hM : lk_Ci l D τ 25 adM (lk_me τ adM) yM bM nM .int frM loM avM M (fun r M1 => r = b ∧ M1 = lk_st M 24 2 0)) : lk_opI l D τ adC adM yW bW nW hh avW yM bM nM frM loM avM C M :=
  ⟨0, lk_st C 25 0 a, _, _, hW, fun _ _ ⟨z, a1, M2, ⟨z1, z2⟩, z3⟩ => ⟨z, by rw [z3, z1, z2]⟩, hM, fun r1 M1 z => by
    rw [z.2, z.1]
    exact ⟨lk_st_s, fun _ => lk_st_s.trans hab, s.box.thr, lk_Inv_thr h⟩⟩
theorem lk_op_step (hl0 : l.stackTraces = false) (s : lk_SX 24 C M) (h : lk_Inv M) (x : Int32) : lk_opI l D τ adC adM y_LW_step b_LW_step 4 [(0, 9, 12, 13), (0, 9, 15, 15)] [.ref (adC 0), .int x, .ref (adC 88)] y_MO_step b_MO_step 3 5 118 [.ref (adM 0), .int x] C M := by
  by_cases hx : 0 ≤ x ∧ x ≤ 3
  · obtain ⟨t, ht, rfl⟩ := lk_int_of (n := 3) (by decide) hx
    have ht : t < 4 := by omega
    rcases (h.2.2.2.2.2.2.1 t ht).1 with hb | hb
    · have hC : C 11 t = 1 := by
        rcases (s.bu t ht).2 with z | z
        · exact absurd hb ((s.bu t ht).1.mp z)
        · exact z
      exact lk_opI_x s h (Or.inr rfl) (c_LW_step_2 (nI t) (c_LT_step_no l hl0 D τ adC C t ht hC) (by decide) (by decide)) (c_MO_step_no l D τ adM M t ht hb)
    · have h0 : lk_Inv (lk_st M 24 2 0) := lk_Inv_thr h
      have s0 : lk_SX 24 C (lk_st M 24 2 0) := s.thr
      have hb0 : lk_st M 24 2 0 11 t = 1 := (lk_st_f (by decide)).trans hb
      obtain ⟨p, n, v, rt, nq, x', a, b, na, nb, hh⟩ := lk_spre_ex h0 ht hb0
      obtain ⟨hc1, hc2, hc3⟩ := s0.spre h0 hb0 hh
      have two := s0.step0 h0 hb0 hh
      refine ⟨0, lk_st (mm_cnt (cc_step0 C t p n v rt nq x' a b na nb) t) 25 0 (cc_step0 C t p n v rt nq x' a b na nb).1, _, _, c_LW_step (nI t) (c_LT_step l D τ adC C t p n v rt nq x' a b na nb hc3 hc2 hc1) (by decide) (by decide), fun _ _ ⟨z, a1, M2, ⟨z1, z2⟩, z3⟩ => ⟨z, by rw [z3, z1, z2]⟩, c_MO_step l D τ adM M t p n v rt nq x' a b na nb hb hh, fun r1 M1 z => ?_⟩
      rw [z.1, z.2]
      exact ⟨lk_cnt_24.trans (lk_step0_24.trans lk_st_s), fun _ => lk_st_s.trans two.1, (lk_SX.cnt two).box, lk_Inv_cnt (lk_Inv_step0 h0 hb0 hh)⟩
  · exact lk_opI_x s h (Or.inl rfl) (c_LW_step_1 x (c_LT_step_bad l hl0 D τ adC C x hx) (by decide) (by decide)) (c_MO_step_bad l D τ adM M x hx)
theorem lk_op_answer (hl0 : l.stackTraces = false) (s : lk_SX 24 C M) (h : lk_Inv M) (x : Int32) : lk_opI l D τ adC adM y_LW_answer b_LW_answer 4 [(0, 9, 12, 13), (0, 9, 15, 24)] [.ref (adC 0), .int x, .ref (adC 88)] y_MO_answer b_MO_answer 2 2 43 [.ref (adM 0), .int x] C M := by
  by_cases hx : 0 ≤ x ∧ x ≤ 3
  · obtain ⟨t, ht, rfl⟩ := lk_int_of (n := 3) (by decide) hx
    have ht : t < 4 := by omega
    rcases (h.2.2.2.2.2.2.1 t ht).2 with hb | hb
    · have hC : C 20 t = 0 := (s.pl 20 t (by decide)).trans hb
      exact lk_opI_x s h (Or.inr rfl) (c_LW_answer_2 (nI t) (c_LT_answer_no l hl0 D τ adC C t ht hC) (by decide) (by decide)) (c_MO_answer_no l D τ adM M t ht hb)
    · have hC : C 20 t = 1 := (s.pl 20 t (by decide)).trans hb
      exact lk_opI_r s h (s.pl 21 t (by decide)) (c_LW_answer (nI t) (c_LT_answer l D τ adC C t ht hC) (by decide) (by decide)) (c_MO_answer l D τ adM M t ht hb)
  · exact lk_opI_x s h (Or.inl rfl) (c_LW_answer_1 x (c_LT_answer_bad l hl0 D τ adC C x hx) (by decide) (by decide)) (c_MO_answer_bad l D τ adM M x hx)
theorem lk_op_look (hl0 : l.stackTraces = false) (s : lk_SX 24 C M) (h : lk_Inv M) (x y : Int32) : lk_opI l D τ adC adM y_LW_look b_LW_look 5 [(0, 10, 13, 13)] [.ref (adC 0), .int x, .int y, .ref (adC 88)] y_MO_look b_MO_look 3 2 43 [.ref (adM 0), .int x, .int y] C M := by
  by_cases hx : (0 ≤ x ∧ x ≤ 3) ∧ (0 ≤ y ∧ y ≤ 8)
  · obtain ⟨t, ht, rfl⟩ := lk_int_of (n := 3) (by decide) hx.1
    obtain ⟨w, hw, rfl⟩ := lk_int_of (n := 8) (by decide) hx.2
    have ht : t < 4 := by omega
    exact lk_opI_r s h (s.look h ht hw) (c_LW_look (nI t) (nI w) (c_LT_look l D τ adC C t w ht hw) (by decide) (by decide)) (c_MO_look l D τ adM M t w ht hw (h.2.2.2.2.2.2.1 t ht).1)
  · exact lk_opI_x s h (Or.inl rfl) (c_LW_look_1 x y (c_LT_look_bad l hl0 D τ adC C x y hx) (by decide) (by decide)) (c_MO_look_bad l D τ adM M x y hx)
theorem lk_op_page (hl0 : l.stackTraces = false) (s : lk_SX 24 C M) (h : lk_Inv M) (x y : Int32) : lk_opI l D τ adC adM y_LW_page b_LW_page 5 [(0, 10, 13, 13)] [.ref (adC 0), .int x, .int y, .ref (adC 88)] y_MO_page b_MO_page 3 1 22 [.ref (adM 0), .int x, .int y] C M := by
  by_cases hx : (0 ≤ x ∧ x ≤ 23) ∧ (0 ≤ y ∧ y ≤ 6)
  · obtain ⟨t, ht, rfl⟩ := lk_int_of (n := 23) (by decide) hx.1
    obtain ⟨w, hw, rfl⟩ := lk_int_of (n := 6) (by decide) hx.2
    have ht : t < 24 := by omega
    exact lk_opI_r s h (s.page ht hw) (c_LW_page (nI t) (nI w) (c_LT_page l D τ adC C t w ht hw) (by decide) (by decide)) (c_MO_page l D τ adM M t w ht hw)
  · exact lk_opI_x s h (Or.inl rfl) (c_LW_page_1 x y (c_LT_page_bad l hl0 D τ adC C x y hx) (by decide) (by decide)) (c_MO_page_bad l D τ adM M x y hx)
theorem lk_op_entry (hl0 : l.stackTraces = false) (s : lk_SX 24 C M) (h : lk_Inv M) (x k z : Int32) : lk_opI l D τ adC adM y_LW_entry b_LW_entry 6 [(0, 12, 15, 24)] [.ref (adC 0), .int x, .int k, .int z, .ref (adC 88)] y_MO_entry b_MO_entry 4 2 43 [.ref (adM 0), .int x, .int k, .int z] C M := by
  by_cases hx : lk_isn M x
  · obtain ⟨p, hp, rfl, kp⟩ := hx
    obtain ⟨n, hn, h5⟩ := lk_n4 h hp kp
    have kC : C 0 p = 1 := (s.k p hp).trans kp
    have c5 : C 5 p = nI n := (s.nd p hp (by omega) kp 5 (by decide) (by decide)).trans h5
    by_cases hk : ∃ j : Nat, j < n ∧ k = nI j
    · obtain ⟨j, hj, rfl⟩ := hk
      refine lk_opI_r s h ?_ (c_LW_entry (nI p) (nI j) z (c_LT_entry l D τ adC C p n j hp kC c5 (by omega) hj z) (by decide) (by decide)) (c_MO_entry l D τ adM M p n j hp kp h5 (by omega) hj z)
      rw [s.e7 hp (by omega) kp h5 (by omega) hj, s.e8 hp (by omega) kp h5 (by omega) hj]
    · exact lk_opI_x s h (Or.inl rfl) (c_LW_entry_1 (nI p) k z (c_LT_entry_no l hl0 D τ adC C p n hp kC c5 (by omega) k z hk) (by decide) (by decide)) (c_MO_entry_no l D τ adM M p n hp kp h5 (by omega) k z hk)
  · exact lk_opI_x s h (Or.inl rfl) (c_LW_entry_1 x k z (c_LT_entry_bad l hl0 D τ adC C s.nw x k z (fun w => hx (s.isn.mp w))) (by decide) (by decide)) (c_MO_entry_bad l D τ adM M x k z hx)
theorem lk_op_under (hl0 : l.stackTraces = false) (s : lk_SX 24 C M) (h : lk_Inv M) (x : Int32) : lk_opI l D τ adC adM y_LW_under b_LW_under 4 [(0, 9, 12, 24)] [.ref (adC 0), .int x, .ref (adC 88)] y_MO_under b_MO_under 6 2 43 [.ref (adM 0), .int x] C M := by
  by_cases hx : lk_isn M x
  · obtain ⟨p, hp, rfl, kp⟩ := hx
    have kC : C 0 p = 1 := (s.k p hp).trans kp
    obtain ⟨rt, r1, r2⟩ := h.1
    obtain ⟨f, hf, ef⟩ := lk_lvl r2 hp kp
    have tw := lk_tw_of h f p (by omega) hp kp ef
    obtain ⟨e, twC⟩ := s.un f p tw
    refine ⟨0, lk_st C 25 0 (lk_un C f p), _, _, c_LW_under (nI p) (c_LT_under l D τ adC C p f hp kC (by omega) twC) (by omega) (by omega), fun _ _ ⟨z, a1, M2, ⟨z1, z2⟩, z3⟩ => ⟨z, by rw [z3, z1, z2]⟩, c_MO_under l D τ adM M p f hp kp (by omega) tw, fun r1 M1 z => ?_⟩
    obtain ⟨z1, g, z2⟩ := z
    rw [z1, z2]
    refine ⟨?_, fun _ => lk_st_s.trans e, s.box.thr.op, lk_Inv_op (lk_Inv_thr h)⟩
    unfold lk_op
    rw [lk_up_eq, if_neg (by decide), lk_st_s]
  · exact lk_opI_x s h (Or.inl rfl) (c_LW_under_1 x (c_LT_under_bad l hl0 D τ adC C s.nw x (fun w => hx (s.isn.mp w))) (by decide) (by decide)) (c_MO_under_bad l D τ adM M x hx)
theorem lk_op_begin (hl0 : l.stackTraces = false) (s : lk_SX 24 C M) (h : lk_Inv M) (x o k v : Int32) : lk_opV l D τ adC adM y_LW_begin b_LW_begin 6 [(0, 9, 12, 13), (0, 9, 16, 15)] [.ref (adC 0), .int x, .int o, .int k, .int v] y_MO_begin b_MO_begin 5 2 45 [.ref (adM 0), .int x, .int o, .int k, .int v] C M := by
  by_cases hx : lk_bok x o k
  · obtain ⟨t, ht, rfl⟩ := lk_int_of (n := 3) (by decide) hx.1
    have ht : t < 4 := by omega
    rcases (h.2.2.2.2.2.2.1 t ht).1 with hb | hb
    · have hC : C 11 t = 1 := by
        rcases (s.bu t ht).2 with z | z
        · exact absurd hb ((s.bu t ht).1.mp z)
        · exact z
      have h0 : lk_Inv (lk_st M 24 2 0) := lk_Inv_thr h
      have s0 : lk_SX 24 C (lk_st M 24 2 0) := s.thr
      obtain ⟨rt, r1, r2⟩ := h.1
      obtain ⟨hr, -, -⟩ := lk_root r2
      obtain ⟨nq, hnq, hq, hqx⟩ := h.2.2.1
      obtain ⟨y, hy⟩ : ∃ y, 0 < nq → y < 24 ∧ M 10 0 = nI y := by
        by_cases c : 0 < nq
        · obtain ⟨y, y1, y2, -⟩ := hqx 0 c
          exact ⟨y, fun _ => ⟨y1, y2⟩⟩
        · exact ⟨0, fun z => absurd z c⟩
      have hy0 : 0 < nq → y < 24 ∧ lk_st M 24 2 0 10 0 = nI y := fun z => ⟨(hy z).1, (lk_st_f (by decide)).trans (hy z).2⟩
      have hyC : 0 < nq → y < 24 ∧ C 10 0 = nI y := fun z => ⟨(hy z).1, (s.pl 10 0 (by decide)).trans (hy z).2⟩
      refine ⟨0, lk_st (if o = 3 then cc_choose (cc_beg0 C t o k v) t nq rt y else cc_beg0 C t o k v) 25 0 (C 25 0), _, _, c_LW_begin (nI t) o k v (c_LT_begin l D τ adC C t nq rt y ht o k v hx hC hnq (s.qn.trans hq) hr (s.rt.trans r1) hyC) (by decide) (by decide), fun _ _ ⟨z, M2, z2, z3⟩ => ⟨z, by rw [z3, z2]⟩, c_MO_begin l D τ adM M t nq rt y ht o k v hx hb hnq hq hr r1 hy, fun M1 z => ?_⟩
      rw [z]
      exact ⟨lk_beg_24.trans lk_st_s, (s0.begin h0 ht hx hnq ((lk_st_p (by decide)).trans hq) hy0).box, lk_Inv_begin h0 ht hx ((lk_st_f (by decide)).trans hb) hnq ((lk_st_p (by decide)).trans hq) hr ((lk_st_p (by decide)).trans r1) hy0⟩
    · have hC : C 11 t = 0 := (s.bu t ht).1.mpr (by rw [hb]; decide)
      exact ⟨2, _, _, _, c_LW_begin_2 (nI t) o k v (c_LT_begin_no l hl0 D τ adC C t ht o k v hx hC) (by decide) (by decide), fun _ _ z => z, c_MO_begin_no l D τ adM M t ht o k v hx hb, fun M1 z => by rw [z]; exact ⟨lk_st_s, s.box.thr, lk_Inv_thr h⟩⟩
  · exact ⟨1, _, _, _, c_LW_begin_1 x o k v (c_LT_begin_bad l hl0 D τ adC C x o k v hx) (by decide) (by decide), fun _ _ z => z, c_MO_begin_bad l D τ adM M x o k v hx, fun M1 z => by rw [z]; exact ⟨lk_st_s, s.box.thr, lk_Inv_thr h⟩⟩
end Ops
