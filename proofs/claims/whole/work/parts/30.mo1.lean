set_option maxRecDepth 20000 in
theorem c_MO_thrown (l : Launch) (D : va_G) (τ : Nat → ClassId) (ad : Nat → Nat) (M : lk_M) : lk_Ci l D τ 25 ad (lk_me τ ad) y_MO_thrown b_MO_thrown 1 (.int) 0 0 [.ref (ad 0)] M (fun r M1 => r = M 24 2 ∧ M1 = M) := by
  refine lk_openi (by decide +kernel) (Nat.le_of_ble_eq_true rfl) ?_
  intro pg en s m args below meth cd ls A X h hA hl
  obtain ⟨hx, hb, -⟩ := id X
  have hl : lv_has ls 1 [(0, .ref (ad 0))] := hl
  refine lv_aload_n hx hb d_MO_thrown_0 rfl (lv_at hl 0 rfl) ?_
  refine mo_get X rfl h 0 (by decide) rfl gf_MO_83 rfl d_MO_thrown_1 ?_
  exact lk_reti X h d_MO_thrown_4 (⟨rfl, rfl⟩)
set_option maxRecDepth 20000 in
theorem c_MO_root (l : Launch) (D : va_G) (τ : Nat → ClassId) (ad : Nat → Nat) (M : lk_M) : lk_Ci l D τ 25 ad (lk_me τ ad) y_MO_root b_MO_root 1 (.int) 0 0 [.ref (ad 0)] M (fun r M1 => r = M 24 0 ∧ M1 = lk_st M 24 2 0) := by
  refine lk_openi (by decide +kernel) (Nat.le_of_ble_eq_true rfl) ?_
  intro pg en s m args below meth cd ls A X h hA hl
  obtain ⟨hx, hb, -⟩ := id X
  have hl : lv_has ls 1 [(0, .ref (ad 0))] := hl
  refine lv_aload_n hx hb d_MO_root_0 rfl (lv_at hl 0 rfl) ?_
  refine lv_iconst (v := 0) hx hb d_MO_root_1 (by decide) ?_
  refine mo_put X rfl h 0 2 (by decide) gf_MO_83 d_MO_root_2 (fun H locs h => ?_)
  refine lv_aload_n hx hb d_MO_root_5 rfl (lv_at hl 0 rfl) ?_
  refine mo_get X rfl h 11 (by decide) rfl gf_MO_108 rfl d_MO_root_6 ?_
  refine lk_top (M 24 0) (lk_st_p (by omega)) ?_
  exact lk_reti X h d_MO_root_9 (⟨rfl, rfl⟩)
set_option maxRecDepth 20000 in
theorem c_MO_queued (l : Launch) (D : va_G) (τ : Nat → ClassId) (ad : Nat → Nat) (M : lk_M) : lk_Ci l D τ 25 ad (lk_me τ ad) y_MO_queued b_MO_queued 1 (.int) 0 0 [.ref (ad 0)] M (fun r M1 => r = M 24 1 ∧ M1 = lk_st M 24 2 0) := by
  refine lk_openi (by decide +kernel) (Nat.le_of_ble_eq_true rfl) ?_
  intro pg en s m args below meth cd ls A X h hA hl
  obtain ⟨hx, hb, -⟩ := id X
  have hl : lv_has ls 1 [(0, .ref (ad 0))] := hl
  refine lv_aload_n hx hb d_MO_queued_0 rfl (lv_at hl 0 rfl) ?_
  refine lv_iconst (v := 0) hx hb d_MO_queued_1 (by decide) ?_
  refine mo_put X rfl h 0 2 (by decide) gf_MO_83 d_MO_queued_2 (fun H locs h => ?_)
  refine lv_aload_n hx hb d_MO_queued_5 rfl (lv_at hl 0 rfl) ?_
  refine mo_get X rfl h 12 (by decide) rfl gf_MO_91 rfl d_MO_queued_6 ?_
  refine lk_top (M 24 1) (lk_st_p (by omega)) ?_
  exact lk_reti X h d_MO_queued_9 (⟨rfl, rfl⟩)
set_option maxRecDepth 20000 in
theorem c_MO_within (l : Launch) (D : va_G) (τ : Nat → ClassId) (ad : Nat → Nat) (M : lk_M) (v lo hi : Int32) : lk_Ci l D τ 25 ad (lk_me τ ad) y_MO_within b_MO_within 3 (.boolean) 0 0 [.int v, .int lo, .int hi] M (fun r M1 => (r = if lo ≤ v ∧ v ≤ hi then 1 else 0) ∧ M1 = M) := by
  refine lk_openi (by decide +kernel) (Nat.le_of_ble_eq_true rfl) ?_
  intro pg en s m args below meth cd ls A X h hA hl
  obtain ⟨hx, hb, -⟩ := id X
  have hl : lv_has ls 3 [(0, .int v), (1, .int lo), (2, .int hi)] := hl
  refine lv_iload_n hx hb d_MO_within_0 rfl (lv_at hl 0 rfl) ?_
  refine lv_iload_n hx hb d_MO_within_1 rfl (lv_at hl 1 rfl) ?_
  refine lv_icmp_lt (tgt := 14) hx hb d_MO_within_2 (by decide) (fun h1 => ?_) (fun h1 => ?_)
  · refine lv_iconst (v := 0) hx hb d_MO_within_14 (by decide) ?_
    exact lk_retz X h d_MO_within_15 (by decide) (⟨(if_neg (fun z => absurd h1 (Int32.not_lt.mpr z.1))).symm, rfl⟩)
  · refine lv_iload_n hx hb d_MO_within_5 rfl (lv_at hl 0 rfl) ?_
    refine lv_iload_n hx hb d_MO_within_6 rfl (lv_at hl 2 rfl) ?_
    refine lv_icmp_gt (tgt := 14) hx hb d_MO_within_7 (by decide) (fun h2 => ?_) (fun h2 => ?_)
    · refine lv_iconst (v := 0) hx hb d_MO_within_14 (by decide) ?_
      exact lk_retz X h d_MO_within_15 (by decide) (⟨(if_neg (fun z => absurd h2 (Int32.not_lt.mpr z.2))).symm, rfl⟩)
    · refine lv_iconst (v := 1) hx hb d_MO_within_10 (by decide) ?_
      refine lv_goto (tgt := 15) hx hb d_MO_within_11 (by decide) ?_
      exact lk_retz X h d_MO_within_15 (by decide) (⟨(if_pos ⟨Int32.not_lt.mp h1, Int32.not_lt.mp h2⟩).symm, rfl⟩)
set_option maxRecDepth 20000 in
theorem c_MO_fails (l : Launch) (D : va_G) (τ : Nat → ClassId) (ad : Nat → Nat) (M : lk_M) (v k : Int32) (hv : v = 0 ∨ v = 1) : lk_Ci l D τ 25 ad (lk_me τ ad) y_MO_fails b_MO_fails 3 (.boolean) 0 0 [.ref (ad 0), .int v, .int k] M (fun r M1 => r = v ∧ M1 = lk_st M 24 2 (if v = 0 then 0 else k)) := by
  refine lk_openi (by decide +kernel) (Nat.le_of_ble_eq_true rfl) ?_
  intro pg en s m args below meth cd ls A X h hA hl
  obtain ⟨hx, hb, -⟩ := id X
  have hl : lv_has ls 3 [(0, .ref (ad 0)), (1, .int v), (2, .int k)] := hl
  refine lv_aload_n hx hb d_MO_fails_0 rfl (lv_at hl 0 rfl) ?_
  refine lv_iload_n hx hb d_MO_fails_1 rfl (lv_at hl 1 rfl) ?_
  refine lv_if_eq (tgt := 9) hx hb d_MO_fails_2 (by decide) (fun h1 => ?_) (fun h1 => ?_)
  · refine lv_iconst (v := 0) hx hb d_MO_fails_9 (by decide) ?_
    refine mo_put X rfl h 0 2 (by decide) gf_MO_83 d_MO_fails_10 (fun H locs h => ?_)
    refine lv_iload_n hx hb d_MO_fails_13 rfl (lv_at hl 1 rfl) ?_
    exact lk_retz X h d_MO_fails_14 hv (⟨rfl, by rw [if_pos h1]⟩)
  · refine lv_iload_n hx hb d_MO_fails_5 rfl (lv_at hl 2 rfl) ?_
    refine lv_goto (tgt := 10) hx hb d_MO_fails_6 (by decide) ?_
    refine mo_put X rfl h 0 2 (by decide) gf_MO_83 d_MO_fails_10 (fun H locs h => ?_)
    refine lv_iload_n hx hb d_MO_fails_13 rfl (lv_at hl 1 rfl) ?_
    exact lk_retz X h d_MO_fails_14 hv (⟨rfl, by rw [if_neg h1]⟩)
