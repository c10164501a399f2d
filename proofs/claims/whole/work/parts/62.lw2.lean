theorem lk_cI : Cond.castable lk_eI lk_eI ∈ lk_NG := by decide +kernel
theorem lk_cS : Cond.castable lk_eS lk_eS ∈ lk_NG := by decide +kernel
theorem lk_cN : Cond.castable lk_eN lk_eN ∈ lk_NG := by decide +kernel
theorem c_LW_begin {l : Launch} {D : va_G} {τ : Nat → ClassId} {ad : Nat → Nat} {M : lk_M} (x o k v : Int32) {fr lo FR LO : Nat} {post : lk_M → Prop} (hM : lk_Cv l D τ 88 ad (lk_ce τ ad) y_LT_begin b_LT_begin 6 fr lo [.ref (ad 0), .int x, .int o, .int k, .int v] M post) (hfr : fr + 1 ≤ FR) (hlo : 8 + (6 + 11) + lo ≤ LO) : lk_Lw l D τ ad y_LW_begin b_LW_begin 6 [(0, 9, 12, 13), (0, 9, 16, 15)] FR LO [.ref (ad 0), .int x, .int o, .int k, .int v] M (fun r M1 => r = 0 ∧ ∃ M2, post M2 ∧ M1 = lk_st M2 25 0 (M 25 0)) := by
  refine lk_openW (by decide +kernel) (Nat.le_of_ble_eq_true rfl) ?_
  intro pg en s m args below meth cd ls A X h hA hl hT hE htb
  obtain ⟨hx, hb, -⟩ := id X
  have hl : lv_has ls 6 [(0, .ref (ad 0)), (1, .int x), (2, .int o), (3, .int k), (4, .int v)] := hl
  refine lv_aload_n hx hb d_LW_begin_0 rfl (lv_at hl 0 rfl) ?_
  refine lv_iload_n hx hb d_LW_begin_1 rfl (lv_at hl 1 rfl) ?_
  refine lv_iload_n hx hb d_LW_begin_2 rfl (lv_at hl 2 rfl) ?_
  refine lv_iload_n hx hb d_LW_begin_3 rfl (lv_at hl 3 rfl) ?_
  refine lv_iload hx hb d_LW_begin_4 (lv_at hl 4 rfl) ?_
  refine lk_gov9 (lk_runV (As := [.int x, .int o, .int k, .int v]) (C := R_LT) X (lk_sub9 h) hM ⟨gc_LT_begin, gm_LW_7, gn_LT, gd_LT_begin, hfr, hlo⟩ gi_LT_begin gs_LT_begin ⟨0, 0, _, _, _, lk_w_get (by decide), rfl⟩ rfl hl.1 (Nat.le_of_ble_eq_true rfl) d_LW_begin_6 ⟨Nat.zero_le _, Nat.zero_le _⟩) h hA (fun M2 H locs hk9 h => ?_)
  refine lv_goto (tgt := 20) hx hb d_LW_begin_9 (by decide) ?_
  refine lv_iconst (v := 0) hx hb d_LW_begin_20 (by decide) ?_
  exact lk_retW X h d_LW_begin_21 (by decide) (by decide) ⟨rfl, M2, hk9, rfl⟩
theorem c_LW_begin_1 {l : Launch} {D : va_G} {τ : Nat → ClassId} {ad : Nat → Nat} {M : lk_M} (x o k v : Int32) {fr lo FR LO : Nat} (hM : lk_Xv l D τ 88 ad (lk_ce τ ad) y_LT_begin b_LT_begin 6 fr lo [.ref (ad 0), .int x, .int o, .int k, .int v] M lk_eI) (hfr : fr + 1 ≤ FR) (hlo : 8 + (6 + 11) + lo ≤ LO) : lk_Lw l D τ ad y_LW_begin b_LW_begin 6 [(0, 9, 12, 13), (0, 9, 16, 15)] FR LO [.ref (ad 0), .int x, .int o, .int k, .int v] M (fun r M1 => r = 1 ∧ M1 = lk_st M 25 0 (M 25 0)) := by
  refine lk_openW (by decide +kernel) (Nat.le_of_ble_eq_true rfl) ?_
  intro pg en s m args below meth cd ls A X h hA hl hT hE htb
  obtain ⟨hx, hb, -⟩ := id X
  have hl : lv_has ls 6 [(0, .ref (ad 0)), (1, .int x), (2, .int o), (3, .int k), (4, .int v)] := hl
  refine lv_aload_n hx hb d_LW_begin_0 rfl (lv_at hl 0 rfl) ?_
  refine lv_iload_n hx hb d_LW_begin_1 rfl (lv_at hl 1 rfl) ?_
  refine lv_iload_n hx hb d_LW_begin_2 rfl (lv_at hl 2 rfl) ?_
  refine lv_iload_n hx hb d_LW_begin_3 rfl (lv_at hl 3 rfl) ?_
  refine lv_iload hx hb d_LW_begin_4 (lv_at hl 4 rfl) ?_
  refine lk_goXv (lk_runX (As := [.int x, .int o, .int k, .int v]) (mk := fun A => va_Qv (fun (_ : lk_M) => False) (lk_Bh D τ 88 ad (lk_ce τ ad)) A) X hT hE hA h hM ⟨gc_LT_begin, gm_LW_7, gn_LT, gd_LT_begin, hfr, hlo⟩ gi_LT_begin gs_LT_begin rfl hl.1 (Nat.le_of_ble_eq_true rfl) d_LW_begin_6 ⟨Nat.le_refl _, Nat.le_refl _⟩) h hA (fun ce q9 H locs h g1 g2 g3 => ?_)
  refine vx_catch (own := R_LW) (name := lk_eI) (E := lk_eI) X.2.2.2.2.2.1 [] ⟨0, 9, 12, 13⟩ [⟨0, 9, 16, 15⟩] htb (fun z hz => nomatch hz) (by decide) (by decide) (X.2.2.2.2.1 _ gk_LW_13) (va_Nw.use rfl (hE.2.2.2.1 _ lk_cI)) g1 g2 g3 ?_
  refine lv_astore hx hb d_LW_begin_12 hl (by decide) rfl (fun ls hl => ?_)
  have hl : lv_has ls 6 [(5, .ref q9), (0, .ref (ad 0)), (1, .int x), (2, .int o), (3, .int k), (4, .int v)] := hl
  refine lv_iconst (v := 1) hx hb d_LW_begin_14 (by decide) ?_
  exact lk_retW X h d_LW_begin_15 (by decide) (by decide) ⟨rfl, rfl⟩
theorem c_LW_begin_2 {l : Launch} {D : va_G} {τ : Nat → ClassId} {ad : Nat → Nat} {M : lk_M} (x o k v : Int32) {fr lo FR LO : Nat} (hM : lk_Xv l D τ 88 ad (lk_ce τ ad) y_LT_begin b_LT_begin 6 fr lo [.ref (ad 0), .int x, .int o, .int k, .int v] M lk_eS) (hfr : fr + 1 ≤ FR) (hlo : 8 + (6 + 11) + lo ≤ LO) : lk_Lw l D τ ad y_LW_begin b_LW_begin 6 [(0, 9, 12, 13), (0, 9, 16, 15)] FR LO [.ref (ad 0), .int x, .int o, .int k, .int v] M (fun r M1 => r = 2 ∧ M1 = lk_st M 25 0 (M 25 0)) := by
  refine lk_openW (by decide +kernel) (Nat.le_of_ble_eq_true rfl) ?_
  intro pg en s m args below meth cd ls A X h hA hl hT hE htb
  obtain ⟨hx, hb, -⟩ := id X
  have hl : lv_has ls 6 [(0, .ref (ad 0)), (1, .int x), (2, .int o), (3, .int k), (4, .int v)] := hl
  refine lv_aload_n hx hb d_LW_begin_0 rfl (lv_at hl 0 rfl) ?_
  refine lv_iload_n hx hb d_LW_begin_1 rfl (lv_at hl 1 rfl) ?_
  refine lv_iload_n hx hb d_LW_begin_2 rfl (lv_at hl 2 rfl) ?_
  refine lv_iload_n hx hb d_LW_begin_3 rfl (lv_at hl 3 rfl) ?_
  refine lv_iload hx hb d_LW_begin_4 (lv_at hl 4 rfl) ?_
  refine lk_goXv (lk_runX (As := [.int x, .int o, .int k, .int v]) (mk := fun A => va_Qv (fun (_ : lk_M) => False) (lk_Bh D τ 88 ad (lk_ce τ ad)) A) X hT hE hA h hM ⟨gc_LT_begin, gm_LW_7, gn_LT, gd_LT_begin, hfr, hlo⟩ gi_LT_begin gs_LT_begin rfl hl.1 (Nat.le_of_ble_eq_true rfl) d_LW_begin_6 ⟨Nat.le_refl _, Nat.le_refl _⟩) h hA (fun ce q9 H locs h g1 g2 g3 => ?_)
  refine vx_catch (own := R_LW) (name := lk_eS) (E := lk_eS) X.2.2.2.2.2.1 [⟨0, 9, 12, 13⟩] ⟨0, 9, 16, 15⟩ [] htb (fun z hz => Or.inr (by rw [List.mem_singleton.mp hz]; exact ⟨by decide, lk_eI, X.2.2.2.2.1 _ gk_LW_13, hE.2.2.2.2.1⟩)) (by decide) (by decide) (X.2.2.2.2.1 _ gk_LW_15) (va_Nw.use rfl (hE.2.2.2.1 _ lk_cS)) g1 g2 g3 ?_
  refine lv_astore hx hb d_LW_begin_16 hl (by decide) rfl (fun ls hl => ?_)
  have hl : lv_has ls 6 [(5, .ref q9), (0, .ref (ad 0)), (1, .int x), (2, .int o), (3, .int k), (4, .int v)] := hl
  refine lv_iconst (v := 2) hx hb d_LW_begin_18 (by decide) ?_
  exact lk_retW X h d_LW_begin_19 (by decide) (by decide) ⟨rfl, rfl⟩
theorem c_LW_step {l : Launch} {D : va_G} {τ : Nat → ClassId} {ad : Nat → Nat} {M : lk_M} (x : Int32) {fr lo FR LO : Nat} {post : Int32 → lk_M → Prop} (hM : lk_Ci l D τ 88 ad (lk_ce τ ad) y_LT_step b_LT_step 4 (.int) fr lo [.ref (ad 0), .int x] M post) (hfr : fr + 1 ≤ FR) (hlo : 8 + (4 + 11) + lo ≤ LO) : lk_Lw l D τ ad y_LW_step b_LW_step 4 [(0, 9, 12, 13), (0, 9, 15, 15)] FR LO [.ref (ad 0), .int x, .ref (ad 88)] M (fun r M1 => r = 0 ∧ ∃ a M2, post a M2 ∧ M1 = lk_st M2 25 0 a) := by
  refine lk_openW (by decide +kernel) (Nat.le_of_ble_eq_true rfl) ?_
  intro pg en s m args below meth cd ls A X h hA hl hT hE htb
  obtain ⟨hx, hb, -⟩ := id X
  have hl : lv_has ls 4 [(0, .ref (ad 0)), (1, .int x), (2, .ref (ad 88))] := hl
  refine lv_aload_n hx hb d_LW_step_0 rfl (lv_at hl 2 rfl) ?_
  refine lv_iconst (v := 0) hx hb d_LW_step_1 (by decide) ?_
  refine lv_aload_n hx hb d_LW_step_2 rfl (lv_at hl 0 rfl) ?_
  refine lv_iload_n hx hb d_LW_step_3 rfl (lv_at hl 1 rfl) ?_
  refine lk_goi9 (lk_runV (As := [.int x]) (C := R_LT) X (lk_sub9 h) hM ⟨gc_LT_step, gm_LW_17, gn_LT, gd_LT_step, hfr, hlo⟩ gi_LT_step gs_LT_step ⟨0, 0, _, _, _, lk_w_get (by decide), rfl⟩ rfl hl.1 (Nat.le_of_ble_eq_true rfl) d_LW_step_4 ⟨Nat.zero_le _, Nat.zero_le _⟩) h hA (fun a M2 H locs hk9 h => ?_)
  refine lv_i2l (v := a.toInt64) hx hb d_LW_step_7 rfl ?_
  refine lk_box X h d_LW_step_8 (fun H locs h => ?_)
  rw [lk_st25] at h
  refine lv_goto (tgt := 18) hx hb d_LW_step_9 (by decide) ?_
  refine lv_iconst (v := 0) hx hb d_LW_step_18 (by decide) ?_
  exact lk_retW X h d_LW_step_19 (by decide) (by decide) ⟨rfl, a, M2, hk9, rfl⟩
theorem c_LW_step_1 {l : Launch} {D : va_G} {τ : Nat → ClassId} {ad : Nat → Nat} {M : lk_M} (x : Int32) {fr lo FR LO : Nat} (hM : lk_Xi l D τ 88 ad (lk_ce τ ad) y_LT_step b_LT_step 4 (.int) fr lo [.ref (ad 0), .int x] M lk_eI) (hfr : fr + 1 ≤ FR) (hlo : 8 + (4 + 11) + lo ≤ LO) : lk_Lw l D τ ad y_LW_step b_LW_step 4 [(0, 9, 12, 13), (0, 9, 15, 15)] FR LO [.ref (ad 0), .int x, .ref (ad 88)] M (fun r M1 => r = 1 ∧ M1 = lk_st M 25 0 (M 25 0)) := by
  refine lk_openW (by decide +kernel) (Nat.le_of_ble_eq_true rfl) ?_
  intro pg en s m args below meth cd ls A X h hA hl hT hE htb
  obtain ⟨hx, hb, -⟩ := id X
  have hl : lv_has ls 4 [(0, .ref (ad 0)), (1, .int x), (2, .ref (ad 88))] := hl
  refine lv_aload_n hx hb d_LW_step_0 rfl (lv_at hl 2 rfl) ?_
  refine lv_iconst (v := 0) hx hb d_LW_step_1 (by decide) ?_
  refine lv_aload_n hx hb d_LW_step_2 rfl (lv_at hl 0 rfl) ?_
  refine lv_iload_n hx hb d_LW_step_3 rfl (lv_at hl 1 rfl) ?_
  refine lk_goXi (lk_runX (As := [.int x]) (mk := fun A => va_Qi (fun _ (_ : lk_M) => False) (lk_Bh D τ 88 ad (lk_ce τ ad)) A) X hT hE hA h hM ⟨gc_LT_step, gm_LW_17, gn_LT, gd_LT_step, hfr, hlo⟩ gi_LT_step gs_LT_step rfl hl.1 (Nat.le_of_ble_eq_true rfl) d_LW_step_4 ⟨Nat.le_refl _, Nat.le_refl _⟩) h hA (fun ce q9 H locs h g1 g2 g3 => ?_)
  refine vx_catch (own := R_LW) (name := lk_eI) (E := lk_eI) X.2.2.2.2.2.1 [] ⟨0, 9, 12, 13⟩ [⟨0, 9, 15, 15⟩] htb (fun z hz => nomatch hz) (by decide) (by decide) (X.2.2.2.2.1 _ gk_LW_13) (va_Nw.use rfl (hE.2.2.2.1 _ lk_cI)) g1 g2 g3 ?_
  refine lv_astore_n hx hb d_LW_step_12 rfl hl (by decide) rfl (fun ls hl => ?_)
  have hl : lv_has ls 4 [(3, .ref q9), (0, .ref (ad 0)), (1, .int x), (2, .ref (ad 88))] := hl
  refine lv_iconst (v := 1) hx hb d_LW_step_13 (by decide) ?_
  exact lk_retW X h d_LW_step_14 (by decide) (by decide) ⟨rfl, rfl⟩
theorem c_LW_step_2 {l : Launch} {D : va_G} {τ : Nat → ClassId} {ad : Nat → Nat} {M : lk_M} (x : Int32) {fr lo FR LO : Nat} (hM : lk_Xi l D τ 88 ad (lk_ce τ ad) y_LT_step b_LT_step 4 (.int) fr lo [.ref (ad 0), .int x] M lk_eS) (hfr : fr + 1 ≤ FR) (hlo : 8 + (4 + 11) + lo ≤ LO) : lk_Lw l D τ ad y_LW_step b_LW_step 4 [(0, 9, 12, 13), (0, 9, 15, 15)] FR LO [.ref (ad 0), .int x, .ref (ad 88)] M (fun r M1 => r = 2 ∧ M1 = lk_st M 25 0 (M 25 0)) := by
  refine lk_openW (by decide +kernel) (Nat.le_of_ble_eq_true rfl) ?_
  intro pg en s m args below meth cd ls A X h hA hl hT hE htb
  obtain ⟨hx, hb, -⟩ := id X
  have hl : lv_has ls 4 [(0, .ref (ad 0)), (1, .int x), (2, .ref (ad 88))] := hl
  refine lv_aload_n hx hb d_LW_step_0 rfl (lv_at hl 2 rfl) ?_
  refine lv_iconst (v := 0) hx hb d_LW_step_1 (by decide) ?_
  refine lv_aload_n hx hb d_LW_step_2 rfl (lv_at hl 0 rfl) ?_
  refine lv_iload_n hx hb d_LW_step_3 rfl (lv_at hl 1 rfl) ?_
  refine lk_goXi (lk_runX (As := [.int x]) (mk := fun A => va_Qi (fun _ (_ : lk_M) => False) (lk_Bh D τ 88 ad (lk_ce τ ad)) A) X hT hE hA h hM ⟨gc_LT_step, gm_LW_17, gn_LT, gd_LT_step, hfr, hlo⟩ gi_LT_step gs_LT_step rfl hl.1 (Nat.le_of_ble_eq_true rfl) d_LW_step_4 ⟨Nat.le_refl _, Nat.le_refl _⟩) h hA (fun ce q9 H locs h g1 g2 g3 => ?_)
  refine vx_catch (own := R_LW) (name := lk_eS) (E := lk_eS) X.2.2.2.2.2.1 [⟨0, 9, 12, 13⟩] ⟨0, 9, 15, 15⟩ [] htb (fun z hz => Or.inr (by rw [List.mem_singleton.mp hz]; exact ⟨by decide, lk_eI, X.2.2.2.2.1 _ gk_LW_13, hE.2.2.2.2.1⟩)) (by decide) (by decide) (X.2.2.2.2.1 _ gk_LW_15) (va_Nw.use rfl (hE.2.2.2.1 _ lk_cS)) g1 g2 g3 ?_
  refine lv_astore_n hx hb d_LW_step_15 rfl hl (by decide) rfl (fun ls hl => ?_)
  have hl : lv_has ls 4 [(3, .ref q9), (0, .ref (ad 0)), (1, .int x), (2, .ref (ad 88))] := hl
  refine lv_iconst (v := 2) hx hb d_LW_step_16 (by decide) ?_
  exact lk_retW X h d_LW_step_17 (by decide) (by decide) ⟨rfl, rfl⟩
theorem c_LW_answer {l : Launch} {D : va_G} {τ : Nat → ClassId} {ad : Nat → Nat} {M : lk_M} (x : Int32) {fr lo FR LO : Nat} {post : Int32 → lk_M → Prop} (hM : lk_Ci l D τ 88 ad (lk_ce τ ad) y_LT_answer b_LT_answer 3 (.int) fr lo [.ref (ad 0), .int x] M post) (hfr : fr + 1 ≤ FR) (hlo : 8 + (3 + 11) + lo ≤ LO) : lk_Lw l D τ ad y_LW_answer b_LW_answer 4 [(0, 9, 12, 13), (0, 9, 15, 24)] FR LO [.ref (ad 0), .int x, .ref (ad 88)] M (fun r M1 => r = 0 ∧ ∃ a M2, post a M2 ∧ M1 = lk_st M2 25 0 a) := by
  refine lk_openW (by decide +kernel) (Nat.le_of_ble_eq_true rfl) ?_
  intro pg en s m args below meth cd ls A X h hA hl hT hE htb
  obtain ⟨hx, hb, -⟩ := id X
  have hl : lv_has ls 4 [(0, .ref (ad 0)), (1, .int x), (2, .ref (ad 88))] := hl
  refine lv_aload_n hx hb d_LW_answer_0 rfl (lv_at hl 2 rfl) ?_
  refine lv_iconst (v := 0) hx hb d_LW_answer_1 (by decide) ?_
  refine lv_aload_n hx hb d_LW_answer_2 rfl (lv_at hl 0 rfl) ?_
  refine lv_iload_n hx hb d_LW_answer_3 rfl (lv_at hl 1 rfl) ?_
  refine lk_goi9 (lk_runV (As := [.int x]) (C := R_LT) X (lk_sub9 h) hM ⟨gc_LT_answer, gm_LW_21, gn_LT, gd_LT_answer, hfr, hlo⟩ gi_LT_answer gs_LT_answer ⟨0, 0, _, _, _, lk_w_get (by decide), rfl⟩ rfl hl.1 (Nat.le_of_ble_eq_true rfl) d_LW_answer_4 ⟨Nat.zero_le _, Nat.zero_le _⟩) h hA (fun a M2 H locs hk9 h => ?_)
  refine lv_i2l (v := a.toInt64) hx hb d_LW_answer_7 rfl ?_
  refine lk_box X h d_LW_answer_8 (fun H locs h => ?_)
  rw [lk_st25] at h
  refine lv_goto (tgt := 18) hx hb d_LW_answer_9 (by decide) ?_
  refine lv_iconst (v := 0) hx hb d_LW_answer_18 (by decide) ?_
  exact lk_retW X h d_LW_answer_19 (by decide) (by decide) ⟨rfl, a, M2, hk9, rfl⟩
theorem c_LW_answer_1 {l : Launch} {D : va_G} {τ : Nat → ClassId} {ad : Nat → Nat} {M : lk_M} (x : Int32) {fr lo FR LO : Nat} (hM : lk_Xi l D τ 88 ad (lk_ce τ ad) y_LT_answer b_LT_answer 3 (.int) fr lo [.ref (ad 0), .int x] M lk_eI) (hfr : fr + 1 ≤ FR) (hlo : 8 + (3 + 11) + lo ≤ LO) : lk_Lw l D τ ad y_LW_answer b_LW_answer 4 [(0, 9, 12, 13), (0, 9, 15, 24)] FR LO [.ref (ad 0), .int x, .ref (ad 88)] M (fun r M1 => r = 1 ∧ M1 = lk_st M 25 0 (M 25 0)) := by
  refine lk_openW (by decide +kernel) (Nat.le_of_ble_eq_true rfl) ?_
  intro pg en s m args below meth cd ls A X h hA hl hT hE htb
  obtain ⟨hx, hb, -⟩ := id X
  have hl : lv_has ls 4 [(0, .ref (ad 0)), (1, .int x), (2, .ref (ad 88))] := hl
  refine lv_aload_n hx hb d_LW_answer_0 rfl (lv_at hl 2 rfl) ?_
  refine lv_iconst (v := 0) hx hb d_LW_answer_1 (by decide) ?_
  refine lv_aload_n hx hb d_LW_answer_2 rfl (lv_at hl 0 rfl) ?_
  refine lv_iload_n hx hb d_LW_answer_3 rfl (lv_at hl 1 rfl) ?_
  refine lk_goXi (lk_runX (As := [.int x]) (mk := fun A => va_Qi (fun _ (_ : lk_M) => False) (lk_Bh D τ 88 ad (lk_ce τ ad)) A) X hT hE hA h hM ⟨gc_LT_answer, gm_LW_21, gn_LT, gd_LT_answer, hfr, hlo⟩ gi_LT_answer gs_LT_answer rfl hl.1 (Nat.le_of_ble_eq_true rfl) d_LW_answer_4 ⟨Nat.le_refl _, Nat.le_refl _⟩) h hA (fun ce q9 H locs h g1 g2 g3 => ?_)
  refine vx_catch (own := R_LW) (name := lk_eI) (E := lk_eI) X.2.2.2.2.2.1 [] ⟨0, 9, 12, 13⟩ [⟨0, 9, 15, 24⟩] htb (fun z hz => nomatch hz) (by decide) (by decide) (X.2.2.2.2.1 _ gk_LW_13) (va_Nw.use rfl (hE.2.2.2.1 _ lk_cI)) g1 g2 g3 ?_
  refine lv_astore_n hx hb d_LW_answer_12 rfl hl (by decide) rfl (fun ls hl => ?_)
  have hl : lv_has ls 4 [(3, .ref q9), (0, .ref (ad 0)), (1, .int x), (2, .ref (ad 88))] := hl
  refine lv_iconst (v := 1) hx hb d_LW_answer_13 (by decide) ?_
  exact lk_retW X h d_LW_answer_14 (by decide) (by decide) ⟨rfl, rfl⟩
theorem c_LW_answer_2 {l : Launch} {D : va_G} {τ : Nat → ClassId} {ad : Nat → Nat} {M : lk_M} (x : Int32) {fr lo FR LO : Nat} (hM : lk_Xi l D τ 88 ad (lk_ce τ ad) y_LT_answer b_LT_answer 3 (.int) fr lo [.ref (ad 0), .int x] M lk_eN) (hfr : fr + 1 ≤ FR) (hlo : 8 + (3 + 11) + lo ≤ LO) : lk_Lw l D τ ad y_LW_answer b_LW_answer 4 [(0, 9, 12, 13), (0, 9, 15, 24)] FR LO [.ref (ad 0), .int x, .ref (ad 88)] M (fun r M1 => r = 2 ∧ M1 = lk_st M 25 0 (M 25 0)) := by
  refine lk_openW (by decide +kernel) (Nat.le_of_ble_eq_true rfl) ?_
  intro pg en s m args below meth cd ls A X h hA hl hT hE htb
  obtain ⟨hx, hb, -⟩ := id X
  have hl : lv_has ls 4 [(0, .ref (ad 0)), (1, .int x), (2, .ref (ad 88))] := hl
  refine lv_aload_n hx hb d_LW_answer_0 rfl (lv_at hl 2 rfl) ?_
  refine lv_iconst (v := 0) hx hb d_LW_answer_1 (by decide) ?_
  refine lv_aload_n hx hb d_LW_answer_2 rfl (lv_at hl 0 rfl) ?_
  refine lv_iload_n hx hb d_LW_answer_3 rfl (lv_at hl 1 rfl) ?_
  refine lk_goXi (lk_runX (As := [.int x]) (mk := fun A => va_Qi (fun _ (_ : lk_M) => False) (lk_Bh D τ 88 ad (lk_ce τ ad)) A) X hT hE hA h hM ⟨gc_LT_answer, gm_LW_21, gn_LT, gd_LT_answer, hfr, hlo⟩ gi_LT_answer gs_LT_answer rfl hl.1 (Nat.le_of_ble_eq_true rfl) d_LW_answer_4 ⟨Nat.le_refl _, Nat.le_refl _⟩) h hA (fun ce q9 H locs h g1 g2 g3 => ?_)
  refine vx_catch (own := R_LW) (name := lk_eN) (E := lk_eN) X.2.2.2.2.2.1 [⟨0, 9, 12, 13⟩] ⟨0, 9, 15, 24⟩ [] htb (fun z hz => Or.inr (by rw [List.mem_singleton.mp hz]; exact ⟨by decide, lk_eI, X.2.2.2.2.1 _ gk_LW_13, hE.2.2.2.2.2⟩)) (by decide) (by decide) (X.2.2.2.2.1 _ gk_LW_24) (va_Nw.use rfl (hE.2.2.2.1 _ lk_cN)) g1 g2 g3 ?_
  refine lv_astore_n hx hb d_LW_answer_15 rfl hl (by decide) rfl (fun ls hl => ?_)
  have hl : lv_has ls 4 [(3, .ref q9), (0, .ref (ad 0)), (1, .int x), (2, .ref (ad 88))] := hl
  refine lv_iconst (v := 2) hx hb d_LW_answer_16 (by decide) ?_
  exact lk_retW X h d_LW_answer_17 (by decide) (by decide) ⟨rfl, rfl⟩
theorem c_LW_look {l : Launch} {D : va_G} {τ : Nat → ClassId} {ad : Nat → Nat} {M : lk_M} (x k : Int32) {fr lo FR LO : Nat} {post : Int32 → lk_M → Prop} (hM : lk_Ci l D τ 88 ad (lk_ce τ ad) y_LT_look b_LT_look 4 (.int) fr lo [.ref (ad 0), .int x, .int k] M post) (hfr : fr + 1 ≤ FR) (hlo : 8 + (4 + 11) + lo ≤ LO) : lk_Lw l D τ ad y_LW_look b_LW_look 5 [(0, 10, 13, 13)] FR LO [.ref (ad 0), .int x, .int k, .ref (ad 88)] M (fun r M1 => r = 0 ∧ ∃ a M2, post a M2 ∧ M1 = lk_st M2 25 0 a) := by
  refine lk_openW (by decide +kernel) (Nat.le_of_ble_eq_true rfl) ?_
  intro pg en s m args below meth cd ls A X h hA hl hT hE htb
  obtain ⟨hx, hb, -⟩ := id X
  have hl : lv_has ls 5 [(0, .ref (ad 0)), (1, .int x), (2, .int k), (3, .ref (ad 88))] := hl
  refine lv_aload_n hx hb d_LW_look_0 rfl (lv_at hl 3 rfl) ?_
  refine lv_iconst (v := 0) hx hb d_LW_look_1 (by decide) ?_
  refine lv_aload_n hx hb d_LW_look_2 rfl (lv_at hl 0 rfl) ?_
  refine lv_iload_n hx hb d_LW_look_3 rfl (lv_at hl 1 rfl) ?_
  refine lv_iload_n hx hb d_LW_look_4 rfl (lv_at hl 2 rfl) ?_
  refine lk_goi9 (lk_runV (As := [.int x, .int k]) (C := R_LT) X (lk_sub9 h) hM ⟨gc_LT_look, gm_LW_26, gn_LT, gd_LT_look, hfr, hlo⟩ gi_LT_look gs_LT_look ⟨0, 0, _, _, _, lk_w_get (by decide), rfl⟩ rfl hl.1 (Nat.le_of_ble_eq_true rfl) d_LW_look_5 ⟨Nat.zero_le _, Nat.zero_le _⟩) h hA (fun a M2 H locs hk9 h => ?_)
  refine lv_i2l (v := a.toInt64) hx hb d_LW_look_8 rfl ?_
  refine lk_box X h d_LW_look_9 (fun H locs h => ?_)
  rw [lk_st25] at h
  refine lv_goto (tgt := 17) hx hb d_LW_look_10 (by decide) ?_
  refine lv_iconst (v := 0) hx hb d_LW_look_17 (by decide) ?_
  exact lk_retW X h d_LW_look_18 (by decide) (by decide) ⟨rfl, a, M2, hk9, rfl⟩
theorem c_LW_look_1 {l : Launch} {D : va_G} {τ : Nat → ClassId} {ad : Nat → Nat} {M : lk_M} (x k : Int32) {fr lo FR LO : Nat} (hM : lk_Xi l D τ 88 ad (lk_ce τ ad) y_LT_look b_LT_look 4 (.int) fr lo [.ref (ad 0), .int x, .int k] M lk_eI) (hfr : fr + 1 ≤ FR) (hlo : 8 + (4 + 11) + lo ≤ LO) : lk_Lw l D τ ad y_LW_look b_LW_look 5 [(0, 10, 13, 13)] FR LO [.ref (ad 0), .int x, .int k, .ref (ad 88)] M (fun r M1 => r = 1 ∧ M1 = lk_st M 25 0 (M 25 0)) := by
  refine lk_openW (by decide +kernel) (Nat.le_of_ble_eq_true rfl) ?_
  intro pg en s m args below meth cd ls A X h hA hl hT hE htb
  obtain ⟨hx, hb, -⟩ := id X
  have hl : lv_has ls 5 [(0, .ref (ad 0)), (1, .int x), (2, .int k), (3, .ref (ad 88))] := hl
  refine lv_aload_n hx hb d_LW_look_0 rfl (lv_at hl 3 rfl) ?_
  refine lv_iconst (v := 0) hx hb d_LW_look_1 (by decide) ?_
  refine lv_aload_n hx hb d_LW_look_2 rfl (lv_at hl 0 rfl) ?_
  refine lv_iload_n hx hb d_LW_look_3 rfl (lv_at hl 1 rfl) ?_
  refine lv_iload_n hx hb d_LW_look_4 rfl (lv_at hl 2 rfl) ?_
  refine lk_goXi (lk_runX (As := [.int x, .int k]) (mk := fun A => va_Qi (fun _ (_ : lk_M) => False) (lk_Bh D τ 88 ad (lk_ce τ ad)) A) X hT hE hA h hM ⟨gc_LT_look, gm_LW_26, gn_LT, gd_LT_look, hfr, hlo⟩ gi_LT_look gs_LT_look rfl hl.1 (Nat.le_of_ble_eq_true rfl) d_LW_look_5 ⟨Nat.le_refl _, Nat.le_refl _⟩) h hA (fun ce q9 H locs h g1 g2 g3 => ?_)
  refine vx_catch (own := R_LW) (name := lk_eI) (E := lk_eI) X.2.2.2.2.2.1 [] ⟨0, 10, 13, 13⟩ [] htb (fun z hz => nomatch hz) (by decide) (by decide) (X.2.2.2.2.1 _ gk_LW_13) (va_Nw.use rfl (hE.2.2.2.1 _ lk_cI)) g1 g2 g3 ?_
  refine lv_astore hx hb d_LW_look_13 hl (by decide) rfl (fun ls hl => ?_)
  have hl : lv_has ls 5 [(4, .ref q9), (0, .ref (ad 0)), (1, .int x), (2, .int k), (3, .ref (ad 88))] := hl
  refine lv_iconst (v := 1) hx hb d_LW_look_15 (by decide) ?_
  exact lk_retW X h d_LW_look_16 (by decide) (by decide) ⟨rfl, rfl⟩
theorem c_LW_page {l : Launch} {D : va_G} {τ : Nat → ClassId} {ad : Nat → Nat} {M : lk_M} (x k : Int32) {fr lo FR LO : Nat} {post : Int32 → lk_M → Prop} (hM : lk_Ci l D τ 88 ad (lk_ce τ ad) y_LT_page b_LT_page 4 (.int) fr lo [.ref (ad 0), .int x, .int k] M post) (hfr : fr + 1 ≤ FR) (hlo : 8 + (4 + 11) + lo ≤ LO) : lk_Lw l D τ ad y_LW_page b_LW_page 5 [(0, 10, 13, 13)] FR LO [.ref (ad 0), .int x, .int k, .ref (ad 88)] M (fun r M1 => r = 0 ∧ ∃ a M2, post a M2 ∧ M1 = lk_st M2 25 0 a) := by
  refine lk_openW (by decide +kernel) (Nat.le_of_ble_eq_true rfl) ?_
  intro pg en s m args below meth cd ls A X h hA hl hT hE htb
  obtain ⟨hx, hb, -⟩ := id X
  have hl : lv_has ls 5 [(0, .ref (ad 0)), (1, .int x), (2, .int k), (3, .ref (ad 88))] := hl
  refine lv_aload_n hx hb d_LW_page_0 rfl (lv_at hl 3 rfl) ?_
  refine lv_iconst (v := 0) hx hb d_LW_page_1 (by decide) ?_
  refine lv_aload_n hx hb d_LW_page_2 rfl (lv_at hl 0 rfl) ?_
  refine lv_iload_n hx hb d_LW_page_3 rfl (lv_at hl 1 rfl) ?_
  refine lv_iload_n hx hb d_LW_page_4 rfl (lv_at hl 2 rfl) ?_
  refine lk_goi9 (lk_runV (As := [.int x, .int k]) (C := R_LT) X (lk_sub9 h) hM ⟨gc_LT_page, gm_LW_30, gn_LT, gd_LT_page, hfr, hlo⟩ gi_LT_page gs_LT_page ⟨0, 0, _, _, _, lk_w_get (by decide), rfl⟩ rfl hl.1 (Nat.le_of_ble_eq_true rfl) d_LW_page_5 ⟨Nat.zero_le _, Nat.zero_le _⟩) h hA (fun a M2 H locs hk9 h => ?_)
  refine lv_i2l (v := a.toInt64) hx hb d_LW_page_8 rfl ?_
  refine lk_box X h d_LW_page_9 (fun H locs h => ?_)
  rw [lk_st25] at h
  refine lv_goto (tgt := 17) hx hb d_LW_page_10 (by decide) ?_
  refine lv_iconst (v := 0) hx hb d_LW_page_17 (by decide) ?_
  exact lk_retW X h d_LW_page_18 (by decide) (by decide) ⟨rfl, a, M2, hk9, rfl⟩
theorem c_LW_page_1 {l : Launch} {D : va_G} {τ : Nat → ClassId} {ad : Nat → Nat} {M : lk_M} (x k : Int32) {fr lo FR LO : Nat} (hM : lk_Xi l D τ 88 ad (lk_ce τ ad) y_LT_page b_LT_page 4 (.int) fr lo [.ref (ad 0), .int x, .int k] M lk_eI) (hfr : fr + 1 ≤ FR) (hlo : 8 + (4 + 11) + lo ≤ LO) : lk_Lw l D τ ad y_LW_page b_LW_page 5 [(0, 10, 13, 13)] FR LO [.ref (ad 0), .int x, .int k, .ref (ad 88)] M (fun r M1 => r = 1 ∧ M1 = lk_st M 25 0 (M 25 0)) := by
  refine lk_openW (by decide +kernel) (Nat.le_of_ble_eq_true rfl) ?_
  intro pg en s m args below meth cd ls A X h hA hl hT hE htb
  obtain ⟨hx, hb, -⟩ := id X
  have hl : lv_has ls 5 [(0, .ref (ad 0)), (1, .int x), (2, .int k), (3, .ref (ad 88))] := hl
  refine lv_aload_n hx hb d_LW_page_0 rfl (lv_at hl 3 rfl) ?_
  refine lv_iconst (v := 0) hx hb d_LW_page_1 (by decide) ?_
  refine lv_aload_n hx hb d_LW_page_2 rfl (lv_at hl 0 rfl) ?_
  refine lv_iload_n hx hb d_LW_page_3 rfl (lv_at hl 1 rfl) ?_
  refine lv_iload_n hx hb d_LW_page_4 rfl (lv_at hl 2 rfl) ?_
  refine lk_goXi (lk_runX (As := [.int x, .int k]) (mk := fun A => va_Qi (fun _ (_ : lk_M) => False) (lk_Bh D τ 88 ad (lk_ce τ ad)) A) X hT hE hA h hM ⟨gc_LT_page, gm_LW_30, gn_LT, gd_LT_page, hfr, hlo⟩ gi_LT_page gs_LT_page rfl hl.1 (Nat.le_of_ble_eq_true rfl) d_LW_page_5 ⟨Nat.le_refl _, Nat.le_refl _⟩) h hA (fun ce q9 H locs h g1 g2 g3 => ?_)
  refine vx_catch (own := R_LW) (name := lk_eI) (E := lk_eI) X.2.2.2.2.2.1 [] ⟨0, 10, 13, 13⟩ [] htb (fun z hz => nomatch hz) (by decide) (by decide) (X.2.2.2.2.1 _ gk_LW_13) (va_Nw.use rfl (hE.2.2.2.1 _ lk_cI)) g1 g2 g3 ?_
  refine lv_astore hx hb d_LW_page_13 hl (by decide) rfl (fun ls hl => ?_)
  have hl : lv_has ls 5 [(4, .ref q9), (0, .ref (ad 0)), (1, .int x), (2, .int k), (3, .ref (ad 88))] := hl
  refine lv_iconst (v := 1) hx hb d_LW_page_15 (by decide) ?_
  exact lk_retW X h d_LW_page_16 (by decide) (by decide) ⟨rfl, rfl⟩
theorem c_LW_entry {l : Launch} {D : va_G} {τ : Nat → ClassId} {ad : Nat → Nat} {M : lk_M} (x k z : Int32) {fr lo FR LO : Nat} {post : Int32 → lk_M → Prop} (hM : lk_Ci l D τ 88 ad (lk_ce τ ad) y_LT_entry b_LT_entry 5 (.int) fr lo [.ref (ad 0), .int x, .int k, .int z] M post) (hfr : fr + 1 ≤ FR) (hlo : 8 + (5 + 11) + lo ≤ LO) : lk_Lw l D τ ad y_LW_entry b_LW_entry 6 [(0, 12, 15, 24)] FR LO [.ref (ad 0), .int x, .int k, .int z, .ref (ad 88)] M (fun r M1 => r = 0 ∧ ∃ a M2, post a M2 ∧ M1 = lk_st M2 25 0 a) := by
  refine lk_openW (by decide +kernel) (Nat.le_of_ble_eq_true rfl) ?_
  intro pg en s m args below meth cd ls A X h hA hl hT hE htb
  obtain ⟨hx, hb, -⟩ := id X
  have hl : lv_has ls 6 [(0, .ref (ad 0)), (1, .int x), (2, .int k), (3, .int z), (4, .ref (ad 88))] := hl
  refine lv_aload hx hb d_LW_entry_0 (lv_at hl 4 rfl) ?_
  refine lv_iconst (v := 0) hx hb d_LW_entry_2 (by decide) ?_
  refine lv_aload_n hx hb d_LW_entry_3 rfl (lv_at hl 0 rfl) ?_
  refine lv_iload_n hx hb d_LW_entry_4 rfl (lv_at hl 1 rfl) ?_
  refine lv_iload_n hx hb d_LW_entry_5 rfl (lv_at hl 2 rfl) ?_
  refine lv_iload_n hx hb d_LW_entry_6 rfl (lv_at hl 3 rfl) ?_
  refine lk_goi9 (lk_runV (As := [.int x, .int k, .int z]) (C := R_LT) X (lk_sub9 h) hM ⟨gc_LT_entry, gm_LW_33, gn_LT, gd_LT_entry, hfr, hlo⟩ gi_LT_entry gs_LT_entry ⟨0, 0, _, _, _, lk_w_get (by decide), rfl⟩ rfl hl.1 (Nat.le_of_ble_eq_true rfl) d_LW_entry_7 ⟨Nat.zero_le _, Nat.zero_le _⟩) h hA (fun a M2 H locs hk9 h => ?_)
  refine lv_i2l (v := a.toInt64) hx hb d_LW_entry_10 rfl ?_
  refine lk_box X h d_LW_entry_11 (fun H locs h => ?_)
  rw [lk_st25] at h
  refine lv_goto (tgt := 19) hx hb d_LW_entry_12 (by decide) ?_
  refine lv_iconst (v := 0) hx hb d_LW_entry_19 (by decide) ?_
  exact lk_retW X h d_LW_entry_20 (by decide) (by decide) ⟨rfl, a, M2, hk9, rfl⟩
theorem c_LW_entry_1 {l : Launch} {D : va_G} {τ : Nat → ClassId} {ad : Nat → Nat} {M : lk_M} (x k z : Int32) {fr lo FR LO : Nat} (hM : lk_Xi l D τ 88 ad (lk_ce τ ad) y_LT_entry b_LT_entry 5 (.int) fr lo [.ref (ad 0), .int x, .int k, .int z] M lk_eN) (hfr : fr + 1 ≤ FR) (hlo : 8 + (5 + 11) + lo ≤ LO) : lk_Lw l D τ ad y_LW_entry b_LW_entry 6 [(0, 12, 15, 24)] FR LO [.ref (ad 0), .int x, .int k, .int z, .ref (ad 88)] M (fun r M1 => r = 1 ∧ M1 = lk_st M 25 0 (M 25 0)) := by
  refine lk_openW (by decide +kernel) (Nat.le_of_ble_eq_true rfl) ?_
  intro pg en s m args below meth cd ls A X h hA hl hT hE htb
  obtain ⟨hx, hb, -⟩ := id X
  have hl : lv_has ls 6 [(0, .ref (ad 0)), (1, .int x), (2, .int k), (3, .int z), (4, .ref (ad 88))] := hl
  refine lv_aload hx hb d_LW_entry_0 (lv_at hl 4 rfl) ?_
  refine lv_iconst (v := 0) hx hb d_LW_entry_2 (by decide) ?_
  refine lv_aload_n hx hb d_LW_entry_3 rfl (lv_at hl 0 rfl) ?_
  refine lv_iload_n hx hb d_LW_entry_4 rfl (lv_at hl 1 rfl) ?_
  refine lv_iload_n hx hb d_LW_entry_5 rfl (lv_at hl 2 rfl) ?_
  refine lv_iload_n hx hb d_LW_entry_6 rfl (lv_at hl 3 rfl) ?_
  refine lk_goXi (lk_runX (As := [.int x, .int k, .int z]) (mk := fun A => va_Qi (fun _ (_ : lk_M) => False) (lk_Bh D τ 88 ad (lk_ce τ ad)) A) X hT hE hA h hM ⟨gc_LT_entry, gm_LW_33, gn_LT, gd_LT_entry, hfr, hlo⟩ gi_LT_entry gs_LT_entry rfl hl.1 (Nat.le_of_ble_eq_true rfl) d_LW_entry_7 ⟨Nat.le_refl _, Nat.le_refl _⟩) h hA (fun ce q9 H locs h g1 g2 g3 => ?_)
  refine vx_catch (own := R_LW) (name := lk_eN) (E := lk_eN) X.2.2.2.2.2.1 [] ⟨0, 12, 15, 24⟩ [] htb (fun z hz => nomatch hz) (by decide) (by decide) (X.2.2.2.2.1 _ gk_LW_24) (va_Nw.use rfl (hE.2.2.2.1 _ lk_cN)) g1 g2 g3 ?_
  refine lv_astore hx hb d_LW_entry_15 hl (by decide) rfl (fun ls hl => ?_)
  have hl : lv_has ls 6 [(5, .ref q9), (0, .ref (ad 0)), (1, .int x), (2, .int k), (3, .int z), (4, .ref (ad 88))] := hl
  refine lv_iconst (v := 1) hx hb d_LW_entry_17 (by decide) ?_
  exact lk_retW X h d_LW_entry_18 (by decide) (by decide) ⟨rfl, rfl⟩
theorem c_LW_under {l : Launch} {D : va_G} {τ : Nat → ClassId} {ad : Nat → Nat} {M : lk_M} (x : Int32) {fr lo FR LO : Nat} {post : Int32 → lk_M → Prop} (hM : lk_Ci l D τ 88 ad (lk_ce τ ad) y_LT_under b_LT_under 3 (.int) fr lo [.ref (ad 0), .int x] M post) (hfr : fr + 1 ≤ FR) (hlo : 8 + (3 + 11) + lo ≤ LO) : lk_Lw l D τ ad y_LW_under b_LW_under 4 [(0, 9, 12, 24)] FR LO [.ref (ad 0), .int x, .ref (ad 88)] M (fun r M1 => r = 0 ∧ ∃ a M2, post a M2 ∧ M1 = lk_st M2 25 0 a) := by
  refine lk_openW (by decide +kernel) (Nat.le_of_ble_eq_true rfl) ?_
  intro pg en s m args below meth cd ls A X h hA hl hT hE htb
  obtain ⟨hx, hb, -⟩ := id X
  have hl : lv_has ls 4 [(0, .ref (ad 0)), (1, .int x), (2, .ref (ad 88))] := hl
  refine lv_aload_n hx hb d_LW_under_0 rfl (lv_at hl 2 rfl) ?_
  refine lv_iconst (v := 0) hx hb d_LW_under_1 (by decide) ?_
  refine lv_aload_n hx hb d_LW_under_2 rfl (lv_at hl 0 rfl) ?_
  refine lv_iload_n hx hb d_LW_under_3 rfl (lv_at hl 1 rfl) ?_
  refine lk_goi9 (lk_runV (As := [.int x]) (C := R_LT) X (lk_sub9 h) hM ⟨gc_LT_under, gm_LW_37, gn_LT, gd_LT_under, hfr, hlo⟩ gi_LT_under gs_LT_under ⟨0, 0, _, _, _, lk_w_get (by decide), rfl⟩ rfl hl.1 (Nat.le_of_ble_eq_true rfl) d_LW_under_4 ⟨Nat.zero_le _, Nat.zero_le _⟩) h hA (fun a M2 H locs hk9 h => ?_)
  refine lv_i2l (v := a.toInt64) hx hb d_LW_under_7 rfl ?_
  refine lk_box X h d_LW_under_8 (fun H locs h => ?_)
  rw [lk_st25] at h
  refine lv_goto (tgt := 15) hx hb d_LW_under_9 (by decide) ?_
  refine lv_iconst (v := 0) hx hb d_LW_under_15 (by decide) ?_
  exact lk_retW X h d_LW_under_16 (by decide) (by decide) ⟨rfl, a, M2, hk9, rfl⟩
theorem c_LW_under_1 {l : Launch} {D : va_G} {τ : Nat → ClassId} {ad : Nat → Nat} {M : lk_M} (x : Int32) {fr lo FR LO : Nat} (hM : lk_Xi l D τ 88 ad (lk_ce τ ad) y_LT_under b_LT_under 3 (.int) fr lo [.ref (ad 0), .int x] M lk_eN) (hfr : fr + 1 ≤ FR) (hlo : 8 + (3 + 11) + lo ≤ LO) : lk_Lw l D τ ad y_LW_under b_LW_under 4 [(0, 9, 12, 24)] FR LO [.ref (ad 0), .int x, .ref (ad 88)] M (fun r M1 => r = 1 ∧ M1 = lk_st M 25 0 (M 25 0)) := by
  refine lk_openW (by decide +kernel) (Nat.le_of_ble_eq_true rfl) ?_
  intro pg en s m args below meth cd ls A X h hA hl hT hE htb
  obtain ⟨hx, hb, -⟩ := id X
  have hl : lv_has ls 4 [(0, .ref (ad 0)), (1, .int x), (2, .ref (ad 88))] := hl
  refine lv_aload_n hx hb d_LW_under_0 rfl (lv_at hl 2 rfl) ?_
  refine lv_iconst (v := 0) hx hb d_LW_under_1 (by decide) ?_
  refine lv_aload_n hx hb d_LW_under_2 rfl (lv_at hl 0 rfl) ?_
  refine lv_iload_n hx hb d_LW_under_3 rfl (lv_at hl 1 rfl) ?_
  refine lk_goXi (lk_runX (As := [.int x]) (mk := fun A => va_Qi (fun _ (_ : lk_M) => False) (lk_Bh D τ 88 ad (lk_ce τ ad)) A) X hT hE hA h hM ⟨gc_LT_under, gm_LW_37, gn_LT, gd_LT_under, hfr, hlo⟩ gi_LT_under gs_LT_under rfl hl.1 (Nat.le_of_ble_eq_true rfl) d_LW_under_4 ⟨Nat.le_refl _, Nat.le_refl _⟩) h hA (fun ce q9 H locs h g1 g2 g3 => ?_)
  refine vx_catch (own := R_LW) (name := lk_eN) (E := lk_eN) X.2.2.2.2.2.1 [] ⟨0, 9, 12, 24⟩ [] htb (fun z hz => nomatch hz) (by decide) (by decide) (X.2.2.2.2.1 _ gk_LW_24) (va_Nw.use rfl (hE.2.2.2.1 _ lk_cN)) g1 g2 g3 ?_
  refine lv_astore_n hx hb d_LW_under_12 rfl hl (by decide) rfl (fun ls hl => ?_)
  have hl : lv_has ls 4 [(3, .ref q9), (0, .ref (ad 0)), (1, .int x), (2, .ref (ad 88))] := hl
  refine lv_iconst (v := 1) hx hb d_LW_under_13 (by decide) ?_
  exact lk_retW X h d_LW_under_14 (by decide) (by decide) ⟨rfl, rfl⟩
