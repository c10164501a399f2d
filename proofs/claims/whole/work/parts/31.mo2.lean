theorem lk_b01 (P : Prop) [Decidable P] : (if P then (1 : Int32) else 0) = 0 ∨ (if P then (1 : Int32) else 0) = 1 := by
  by_cases h : P
  · rw [if_pos h]; exact Or.inr rfl
  · rw [if_neg h]; exact Or.inl rfl
theorem lk_if0 {P : Prop} [Decidable P] (h : (if P then (1 : Int32) else 0) = 0) : ¬ P := fun z => by rw [if_pos z] at h; exact absurd h (by decide)
theorem lk_if1 {P : Prop} [Decidable P] (h : ¬ (if P then (1 : Int32) else 0) = 0) : P := by
  by_cases z : P
  · exact z
  · rw [if_neg z] at h; exact absurd rfl h
theorem lk_app_eq (M : lk_M) (p n : Nat) (a b : Int32) : lk_st (lk_st (lk_st M 7 (5 * p + n) a) 8 (5 * p + n) b) 5 p (nI (n + 1)) = lk_ins M p n n a b := by
  funext f i
  unfold lk_ins
  simp only [lk_st_eq, lk_up_eq, lk_shR, upd]
  by_cases h5 : f = 5
  · subst h5; simp
  · by_cases h8 : f = 8
    · subst h8; simp; by_cases hi : i = 5 * p + n
      · simp [hi]
      · simp [hi]; omega
    · by_cases h7 : f = 7
      · subst h7; simp; by_cases hi : i = 5 * p + n
        · simp [hi]
        · simp [hi]; omega
      · simp [h5, h8, h7]
set_option maxRecDepth 20000 in
theorem c_MO_isTask (l : Launch) (D : va_G) (τ : Nat → ClassId) (ad : Nat → Nat) (M : lk_M) (t : Int32) : lk_Ci l D τ 25 ad (lk_me τ ad) y_MO_isTask b_MO_isTask 2 (.boolean) 1 22 [.ref (ad 0), .int t] M (fun r M1 => (r = if 0 ≤ t ∧ t ≤ 3 then 1 else 0) ∧ M1 = M) := by
  refine lk_openi (by decide +kernel) (Nat.le_of_ble_eq_true rfl) ?_
  intro pg en s m args below meth cd ls A X h hA hl
  obtain ⟨hx, hb, -⟩ := id X
  have hl : lv_has ls 2 [(0, .ref (ad 0)), (1, .int t)] := hl
  refine lv_iload_n hx hb d_MO_isTask_0 rfl (lv_at hl 1 rfl) ?_
  refine lv_iconst (v := 0) hx hb d_MO_isTask_1 (by decide) ?_
  refine lv_iconst (v := 3) hx hb d_MO_isTask_2 (by decide) ?_
  refine lk_goi (lk_runS (As := [.int t, .int 0, .int 3]) X h (c_MO_within l D τ ad M t 0 3) ⟨gc_MO_within, gm_MO_101, gn_MO, gd_MO_within, by decide, by decide⟩ gt_MO_within rfl hl.1 (Nat.le_of_ble_eq_true rfl) d_MO_isTask_3 ⟨Nat.zero_le _, Nat.zero_le _⟩) h hA (fun r3 σ3 H locs hk9 h => ?_)
  rw [hk9.2] at h
  rw [hk9.1]
  exact lk_retz X h d_MO_isTask_6 (lk_b01 _) (⟨rfl, rfl⟩)
set_option maxRecDepth 20000 in
theorem c_MO_make (l : Launch) (D : va_G) (τ : Nat → ClassId) (ad : Nat → Nat) (M : lk_M) (p : Nat) (hp : p < 24) (x lo hi r : Int32) : lk_Cv l D τ 25 ad (lk_me τ ad) y_MO_make b_MO_make 6 0 0 [.ref (ad 0), .int (nI p), .int x, .int lo, .int hi, .int r] M (fun M1 => M1 = lk_mk M p x lo hi r) := by
  refine lk_openv (by decide +kernel) (Nat.le_of_ble_eq_true rfl) ?_
  intro pg en s m args below meth cd ls A X h hA hl
  obtain ⟨hx, hb, -⟩ := id X
  have hl : lv_has ls 6 [(0, .ref (ad 0)), (1, .int (nI p)), (2, .int x), (3, .int lo), (4, .int hi), (5, .int r)] := hl
  refine lv_aload_n hx hb d_MO_make_0 rfl (lv_at hl 0 rfl) ?_
  refine mo_get X rfl h 1 (by decide) rfl gf_MO_7 rfl d_MO_make_1 ?_
  refine lv_iload_n hx hb d_MO_make_4 rfl (lv_at hl 1 rfl) ?_
  refine lv_iconst (v := 1) hx hb d_MO_make_5 (by decide) ?_
  refine mo_ast X h 0 24 rfl (by decide) (j := p) (v := 1) (by omega) (by decide) d_MO_make_6 (fun H locs h => ?_)
  refine lv_aload_n hx hb d_MO_make_7 rfl (lv_at hl 0 rfl) ?_
  refine mo_get X rfl h 2 (by decide) rfl gf_MO_13 rfl d_MO_make_8 ?_
  refine lv_iload_n hx hb d_MO_make_11 rfl (lv_at hl 1 rfl) ?_
  refine lv_iload_n hx hb d_MO_make_12 rfl (lv_at hl 2 rfl) ?_
  refine mo_ast X h 1 24 rfl (by decide) (j := p) (v := x) (by omega) (by decide) d_MO_make_13 (fun H locs h => ?_)
  refine lv_aload_n hx hb d_MO_make_14 rfl (lv_at hl 0 rfl) ?_
  refine mo_get X rfl h 3 (by decide) rfl gf_MO_16 rfl d_MO_make_15 ?_
  refine lv_iload_n hx hb d_MO_make_18 rfl (lv_at hl 1 rfl) ?_
  refine lv_iload_n hx hb d_MO_make_19 rfl (lv_at hl 3 rfl) ?_
  refine mo_ast X h 2 24 rfl (by decide) (j := p) (v := lo) (by omega) (by decide) d_MO_make_20 (fun H locs h => ?_)
  refine lv_aload_n hx hb d_MO_make_21 rfl (lv_at hl 0 rfl) ?_
  refine mo_get X rfl h 4 (by decide) rfl gf_MO_19 rfl d_MO_make_22 ?_
  refine lv_iload_n hx hb d_MO_make_25 rfl (lv_at hl 1 rfl) ?_
  refine lv_iload hx hb d_MO_make_26 (lv_at hl 4 rfl) ?_
  refine mo_ast X h 3 24 rfl (by decide) (j := p) (v := hi) (by omega) (by decide) d_MO_make_28 (fun H locs h => ?_)
  refine lv_aload_n hx hb d_MO_make_29 rfl (lv_at hl 0 rfl) ?_
  refine mo_get X rfl h 5 (by decide) rfl gf_MO_22 rfl d_MO_make_30 ?_
  refine lv_iload_n hx hb d_MO_make_33 rfl (lv_at hl 1 rfl) ?_
  refine lv_iload hx hb d_MO_make_34 (lv_at hl 5 rfl) ?_
  refine mo_ast X h 4 24 rfl (by decide) (j := p) (v := r) (by omega) (by decide) d_MO_make_36 (fun H locs h => ?_)
  refine lv_aload_n hx hb d_MO_make_37 rfl (lv_at hl 0 rfl) ?_
  refine mo_get X rfl h 6 (by decide) rfl gf_MO_25 rfl d_MO_make_38 ?_
  refine lv_iload_n hx hb d_MO_make_41 rfl (lv_at hl 1 rfl) ?_
  refine lv_iconst (v := 0) hx hb d_MO_make_42 (by decide) ?_
  refine mo_ast X h 5 24 rfl (by decide) (j := p) (v := 0) (by omega) (by decide) d_MO_make_43 (fun H locs h => ?_)
  refine lv_aload_n hx hb d_MO_make_44 rfl (lv_at hl 0 rfl) ?_
  refine mo_get X rfl h 7 (by decide) rfl gf_MO_28 rfl d_MO_make_45 ?_
  refine lv_iload_n hx hb d_MO_make_48 rfl (lv_at hl 1 rfl) ?_
  refine lv_iconst (v := (-1)) hx hb d_MO_make_49 (by decide) ?_
  refine mo_ast X h 6 24 rfl (by decide) (j := p) (v := (-1)) (by omega) (by decide) d_MO_make_50 (fun H locs h => ?_)
  exact lk_retv X h d_MO_make_51 (rfl)
set_option maxRecDepth 20000 in
theorem c_MO_append (l : Launch) (D : va_G) (τ : Nat → ClassId) (ad : Nat → Nat) (M : lk_M) (p n : Nat) (hp : p < 24) (hc : M 5 p = nI n) (hn : n ≤ 4) (a b : Int32) : lk_Cv l D τ 25 ad (lk_me τ ad) y_MO_append b_MO_append 4 0 0 [.ref (ad 0), .int (nI p), .int a, .int b] M (fun M1 => M1 = lk_ins M p n n a b) := by
  refine lk_openv (by decide +kernel) (Nat.le_of_ble_eq_true rfl) ?_
  intro pg en s m args below meth cd ls A X h hA hl
  obtain ⟨hx, hb, -⟩ := id X
  have hl : lv_has ls 4 [(0, .ref (ad 0)), (1, .int (nI p)), (2, .int a), (3, .int b)] := hl
  refine lv_aload_n hx hb d_MO_append_0 rfl (lv_at hl 0 rfl) ?_
  refine mo_get X rfl h 8 (by decide) rfl gf_MO_31 rfl d_MO_append_1 ?_
  refine lv_iconst (v := nI 5) hx hb d_MO_append_4 (by decide) ?_
  refine lv_iload_n hx hb d_MO_append_5 rfl (lv_at hl 1 rfl) ?_
  refine lk_imulN hx hb d_MO_append_6 ?_
  refine lv_aload_n hx hb d_MO_append_7 rfl (lv_at hl 0 rfl) ?_
  refine mo_get X rfl h 6 (by decide) rfl gf_MO_25 rfl d_MO_append_8 ?_
  refine lv_iload_n hx hb d_MO_append_11 rfl (lv_at hl 1 rfl) ?_
  refine mo_ald X h 5 24 rfl (by decide) (j := p) (by omega) (by decide) d_MO_append_12 ?_
  refine lk_top (nI n) (hc) ?_
  refine lk_iaddN hx hb d_MO_append_13 ?_
  refine lv_iload_n hx hb d_MO_append_14 rfl (lv_at hl 2 rfl) ?_
  refine mo_ast X h 7 120 rfl (by decide) (j := 5 * p + n) (v := a) (by omega) (by decide) d_MO_append_15 (fun H locs h => ?_)
  refine lv_aload_n hx hb d_MO_append_16 rfl (lv_at hl 0 rfl) ?_
  refine mo_get X rfl h 9 (by decide) rfl gf_MO_34 rfl d_MO_append_17 ?_
  refine lv_iconst (v := nI 5) hx hb d_MO_append_20 (by decide) ?_
  refine lv_iload_n hx hb d_MO_append_21 rfl (lv_at hl 1 rfl) ?_
  refine lk_imulN hx hb d_MO_append_22 ?_
  refine lv_aload_n hx hb d_MO_append_23 rfl (lv_at hl 0 rfl) ?_
  refine mo_get X rfl h 6 (by decide) rfl gf_MO_25 rfl d_MO_append_24 ?_
  refine lv_iload_n hx hb d_MO_append_27 rfl (lv_at hl 1 rfl) ?_
  refine mo_ald X h 5 24 rfl (by decide) (j := p) (by omega) (by decide) d_MO_append_28 ?_
  refine lk_top (nI n) ((lk_st_f (by decide)).trans (hc)) ?_
  refine lk_iaddN hx hb d_MO_append_29 ?_
  refine lv_iload_n hx hb d_MO_append_30 rfl (lv_at hl 3 rfl) ?_
  refine mo_ast X h 8 120 rfl (by decide) (j := 5 * p + n) (v := b) (by omega) (by decide) d_MO_append_31 (fun H locs h => ?_)
  refine lv_aload_n hx hb d_MO_append_32 rfl (lv_at hl 0 rfl) ?_
  refine mo_get X rfl h 6 (by decide) rfl gf_MO_25 rfl d_MO_append_33 ?_
  refine lv_iload_n hx hb d_MO_append_36 rfl (lv_at hl 1 rfl) ?_
  refine lv_dup2_11 hx hb d_MO_append_37 rfl rfl ?_
  refine mo_ald X h 5 24 rfl (by decide) (j := p) (by omega) (by decide) d_MO_append_38 ?_
  refine lk_top (nI n) ((lk_st_f (by decide)).trans ((lk_st_f (by decide)).trans (hc))) ?_
  refine lv_iconst (v := nI 1) hx hb d_MO_append_39 (by decide) ?_
  refine lk_iaddN hx hb d_MO_append_40 ?_
  refine mo_ast X h 5 24 rfl (by decide) (j := p) (v := nI (n + 1)) (by omega) (by decide) d_MO_append_41 (fun H locs h => ?_)
  exact lk_retv X h d_MO_append_42 (lk_app_eq M p n a b)
set_option maxRecDepth 20000 in
theorem c_MO_search (l : Launch) (D : va_G) (τ : Nat → ClassId) (ad : Nat → Nat) (M : lk_M) (t : Nat) (ht : t < 4) (x : Int32) : lk_Cv l D τ 25 ad (lk_me τ ad) y_MO_search b_MO_search 3 0 0 [.ref (ad 0), .int (nI t), .int x] M (fun M1 => M1 = lk_srch M t x) := by
  refine lk_openv (by decide +kernel) (Nat.le_of_ble_eq_true rfl) ?_
  intro pg en s m args below meth cd ls A X h hA hl
  obtain ⟨hx, hb, -⟩ := id X
  have hl : lv_has ls 3 [(0, .ref (ad 0)), (1, .int (nI t)), (2, .int x)] := hl
  refine lv_aload_n hx hb d_MO_search_0 rfl (lv_at hl 0 rfl) ?_
  refine mo_get X rfl h 16 (by decide) rfl gf_MO_50 rfl d_MO_search_1 ?_
  refine lv_iload_n hx hb d_MO_search_4 rfl (lv_at hl 1 rfl) ?_
  refine lv_iconst (v := 0) hx hb d_MO_search_5 (by decide) ?_
  refine mo_ast X h 13 4 rfl (by decide) (j := t) (v := 0) (by omega) (by decide) d_MO_search_6 (fun H locs h => ?_)
  refine lv_aload_n hx hb d_MO_search_7 rfl (lv_at hl 0 rfl) ?_
  refine mo_get X rfl h 17 (by decide) rfl gf_MO_53 rfl d_MO_search_8 ?_
  refine lv_iload_n hx hb d_MO_search_11 rfl (lv_at hl 1 rfl) ?_
  refine lv_iload_n hx hb d_MO_search_12 rfl (lv_at hl 2 rfl) ?_
  refine mo_ast X h 14 4 rfl (by decide) (j := t) (v := x) (by omega) (by decide) d_MO_search_13 (fun H locs h => ?_)
  exact lk_retv X h d_MO_search_14 (rfl)
def mm_rel (σ : lk_M) (p : Nat) : lk_M := if σ 0 p = 2 ∧ σ 9 p = 0 then lk_st σ 0 p 0 else σ
set_option maxRecDepth 20000 in
theorem c_MO_release (l : Launch) (D : va_G) (τ : Nat → ClassId) (ad : Nat → Nat) (M : lk_M) (p : Nat) (hp : p < 24) : lk_Cv l D τ 25 ad (lk_me τ ad) y_MO_release b_MO_release 2 0 0 [.ref (ad 0), .int (nI p)] M (fun M1 => M1 = mm_rel M p) := by
  refine lk_openv (by decide +kernel) (Nat.le_of_ble_eq_true rfl) ?_
  intro pg en s m args below meth cd ls A X h hA hl
  obtain ⟨hx, hb, -⟩ := id X
  have hl : lv_has ls 2 [(0, .ref (ad 0)), (1, .int (nI p))] := hl
  refine lv_aload_n hx hb d_MO_release_0 rfl (lv_at hl 0 rfl) ?_
  refine mo_get X rfl h 1 (by decide) rfl gf_MO_7 rfl d_MO_release_1 ?_
  refine lv_iload_n hx hb d_MO_release_4 rfl (lv_at hl 1 rfl) ?_
  refine mo_ald X h 0 24 rfl (by decide) (j := p) (by omega) (by decide) d_MO_release_5 ?_
  refine lv_iconst (v := 2) hx hb d_MO_release_6 (by decide) ?_
  refine lv_icmp_ne (tgt := 26) hx hb d_MO_release_7 (by decide) (fun h1 => ?_) (fun h1 => ?_)
  · exact lk_retv X h d_MO_release_26 ((if_neg (fun z => h1 z.1)).symm)
  · refine lv_aload_n hx hb d_MO_release_10 rfl (lv_at hl 0 rfl) ?_
    refine mo_get X rfl h 10 (by decide) rfl gf_MO_37 rfl d_MO_release_11 ?_
    refine lv_iload_n hx hb d_MO_release_14 rfl (lv_at hl 1 rfl) ?_
    refine mo_ald X h 9 24 rfl (by decide) (j := p) (by omega) (by decide) d_MO_release_15 ?_
    refine lv_if_ne (tgt := 26) hx hb d_MO_release_16 (by decide) (fun h2 => ?_) (fun h2 => ?_)
    · exact lk_retv X h d_MO_release_26 ((if_neg (fun z => h2 z.2)).symm)
    · refine lv_aload_n hx hb d_MO_release_19 rfl (lv_at hl 0 rfl) ?_
      refine mo_get X rfl h 1 (by decide) rfl gf_MO_7 rfl d_MO_release_20 ?_
      refine lv_iload_n hx hb d_MO_release_23 rfl (lv_at hl 1 rfl) ?_
      refine lv_iconst (v := 0) hx hb d_MO_release_24 (by decide) ?_
      refine mo_ast X h 0 24 rfl (by decide) (j := p) (v := 0) (by omega) (by decide) d_MO_release_25 (fun H locs h => ?_)
      exact lk_retv X h d_MO_release_26 ((if_pos ⟨h1, h2⟩).symm)
def lk_lost (σ : lk_M) (t p : Nat) : Prop := σ 0 p ≠ 1 ∨ σ 15 t ≤ σ 2 p
set_option maxRecDepth 20000 in
theorem c_MO_isLost (l : Launch) (D : va_G) (τ : Nat → ClassId) (ad : Nat → Nat) (M : lk_M) (t p : Nat) (ht : t < 4) (hp : p < 24) (hpl : M 14 t = nI p) : lk_Ci l D τ 25 ad (lk_me τ ad) y_MO_isLost b_MO_isLost 3 (.boolean) 0 0 [.ref (ad 0), .int (nI t)] M (fun r M1 => (r = 1 ∧ lk_lost M t p ∨ r = 0 ∧ ¬ lk_lost M t p) ∧ M1 = M) := by
  refine lk_openi (by decide +kernel) (Nat.le_of_ble_eq_true rfl) ?_
  intro pg en s m args below meth cd ls A X h hA hl
  obtain ⟨hx, hb, -⟩ := id X
  have hl : lv_has ls 3 [(0, .ref (ad 0)), (1, .int (nI t))] := hl
  refine lv_aload_n hx hb d_MO_isLost_0 rfl (lv_at hl 0 rfl) ?_
  refine mo_get X rfl h 17 (by decide) rfl gf_MO_53 rfl d_MO_isLost_1 ?_
  refine lv_iload_n hx hb d_MO_isLost_4 rfl (lv_at hl 1 rfl) ?_
  refine mo_ald X h 14 4 rfl (by decide) (j := t) (by omega) (by decide) d_MO_isLost_5 ?_
  refine lk_top (nI p) (hpl) ?_
  refine lv_istore_n hx hb d_MO_isLost_6 rfl hl (by decide) rfl (fun ls hl => ?_)
  have hl : lv_has ls 3 [(2, .int (nI p)), (0, .ref (ad 0)), (1, .int (nI t))] := hl
  refine lv_aload_n hx hb d_MO_isLost_7 rfl (lv_at hl 1 rfl) ?_
  refine mo_get X rfl h 1 (by decide) rfl gf_MO_7 rfl d_MO_isLost_8 ?_
  refine lv_iload_n hx hb d_MO_isLost_11 rfl (lv_at hl 0 rfl) ?_
  refine mo_ald X h 0 24 rfl (by decide) (j := p) (by omega) (by decide) d_MO_isLost_12 ?_
  refine lv_iconst (v := 1) hx hb d_MO_isLost_13 (by decide) ?_
  refine lv_icmp_ne (tgt := 32) hx hb d_MO_isLost_14 (by decide) (fun h1 => ?_) (fun h1 => ?_)
  · refine lv_iconst (v := 1) hx hb d_MO_isLost_32 (by decide) ?_
    refine lv_goto (tgt := 37) hx hb d_MO_isLost_33 (by decide) ?_
    exact lk_retz X h d_MO_isLost_37 (by decide) (⟨Or.inl ⟨rfl, Or.inl h1⟩, rfl⟩)
  · refine lv_aload_n hx hb d_MO_isLost_17 rfl (lv_at hl 1 rfl) ?_
    refine mo_get X rfl h 3 (by decide) rfl gf_MO_16 rfl d_MO_isLost_18 ?_
    refine lv_iload_n hx hb d_MO_isLost_21 rfl (lv_at hl 0 rfl) ?_
    refine mo_ald X h 2 24 rfl (by decide) (j := p) (by omega) (by decide) d_MO_isLost_22 ?_
    refine lv_aload_n hx hb d_MO_isLost_23 rfl (lv_at hl 1 rfl) ?_
    refine mo_get X rfl h 18 (by decide) rfl gf_MO_56 rfl d_MO_isLost_24 ?_
    refine lv_iload_n hx hb d_MO_isLost_27 rfl (lv_at hl 2 rfl) ?_
    refine mo_ald X h 15 4 rfl (by decide) (j := t) (by omega) (by decide) d_MO_isLost_28 ?_
    refine lv_icmp_lt (tgt := 36) hx hb d_MO_isLost_29 (by decide) (fun h2 => ?_) (fun h2 => ?_)
    · refine lv_iconst (v := 0) hx hb d_MO_isLost_36 (by decide) ?_
      exact lk_retz X h d_MO_isLost_37 (by decide) (⟨Or.inr ⟨rfl, fun z => z.elim (fun q => q h1) (fun q => absurd h2 (Int32.not_lt.mpr q))⟩, rfl⟩)
    · refine lv_iconst (v := 1) hx hb d_MO_isLost_32 (by decide) ?_
      refine lv_goto (tgt := 37) hx hb d_MO_isLost_33 (by decide) ?_
      exact lk_retz X h d_MO_isLost_37 (by decide) (⟨Or.inl ⟨rfl, Or.inr (Int32.not_lt.mp h2)⟩, rfl⟩)
section
variable {pg : Program} {l : Launch} {en : Env} {R : Room} {s : State} {m : MethodId} {args : Array Value} {below : List Frame} {meth : Method} {cd : Code} {H : Heap} {locs : List Loc} {cells slots : Nat} {Q : State → Prop} {D : va_G} {τ : Nat → ClassId} {ad : Nat → Nat} {A : Nat → Prop} {H0 : Heap} {M : lk_M}
theorem w_MO_from (X : lk_X pg s m args meth cd y_MO_from b_MO_from 4 (some (.int)) D τ) (h : lk_H D lk_cl A H0 (lk_w 25 ad (lk_me τ ad M)) H locs) {q n : Nat} {k : Int32} (hq : q < 24) (hc : M 5 q = nI n) (hn : n ≤ 5) : ∀ (r i : Nat), i + r = n → ∀ ls : Array Slot, lv_has ls 4 [(3, .int (nI i)), (0, .ref (ad 0)), (1, .int (nI q)), (2, .int k)] → (∀ ls : Array Slot, lv_has ls 4 [(3, .int (nI (i + lk_fr (M 7) k r (5 * q + i)))), (0, .ref (ad 0)), (1, .int (nI q)), (2, .int k)] → W pg l en R s m args below meth cd H locs cells slots Q (F0 m 32 ls [])) → W pg l en R s m args below meth cd H locs cells slots Q (F0 m 2 ls []) := by
  obtain ⟨hx, hb, -⟩ := id X
  intro r
  induction r with
  | zero =>
    intro i hi ls hl kk
    have hi : i = n := by omega
    subst hi
    refine lv_iload_n hx hb d_MO_from_2 rfl (lv_at hl 0 rfl) ?_
    refine lv_aload_n hx hb d_MO_from_3 rfl (lv_at hl 1 rfl) ?_
    refine mo_get X rfl h 6 (by decide) rfl gf_MO_25 rfl d_MO_from_4 ?_
    refine lv_iload_n hx hb d_MO_from_7 rfl (lv_at hl 2 rfl) ?_
    refine mo_ald X h 5 24 rfl (by decide) (j := q) (by omega) (by decide) d_MO_from_8 ?_
    refine lk_top (nI i) (hc) ?_
    refine lk_cN_ge (tgt := 32) hx hb (by omega) (by omega) d_MO_from_9 (by decide) (fun h1 => ?_) (fun h1 => ?_)
    · exact kk ls hl
    · omega
  | succ r ih =>
    intro i hi ls hl kk
    have e0 : lk_fr (M 7) k (r + 1) (5 * q + i) = if M 7 (5 * q + i) < k then lk_fr (M 7) k r (5 * q + i + 1) + 1 else 0 := rfl
    refine lv_iload_n hx hb d_MO_from_2 rfl (lv_at hl 0 rfl) ?_
    refine lv_aload_n hx hb d_MO_from_3 rfl (lv_at hl 1 rfl) ?_
    refine mo_get X rfl h 6 (by decide) rfl gf_MO_25 rfl d_MO_from_4 ?_
    refine lv_iload_n hx hb d_MO_from_7 rfl (lv_at hl 2 rfl) ?_
    refine mo_ald X h 5 24 rfl (by decide) (j := q) (by omega) (by decide) d_MO_from_8 ?_
    refine lk_top (nI n) (hc) ?_
    refine lk_cN_ge (tgt := 32) hx hb (by omega) (by omega) d_MO_from_9 (by decide) (fun h1 => ?_) (fun h1 => ?_)
    · omega
    · refine lv_aload_n hx hb d_MO_from_12 rfl (lv_at hl 1 rfl) ?_
      refine mo_get X rfl h 8 (by decide) rfl gf_MO_31 rfl d_MO_from_13 ?_
      refine lv_iconst (v := nI 5) hx hb d_MO_from_16 (by decide) ?_
      refine lv_iload_n hx hb d_MO_from_17 rfl (lv_at hl 2 rfl) ?_
      refine lk_imulN hx hb d_MO_from_18 ?_
      refine lv_iload_n hx hb d_MO_from_19 rfl (lv_at hl 0 rfl) ?_
      refine lk_iaddN hx hb d_MO_from_20 ?_
      refine mo_ald X h 7 120 rfl (by decide) (j := 5 * q + i) (by omega) (by decide) d_MO_from_21 ?_
      refine lv_iload_n hx hb d_MO_from_22 rfl (lv_at hl 3 rfl) ?_
      refine lv_icmp_ge (tgt := 32) hx hb d_MO_from_23 (by decide) (fun h2 => ?_) (fun h2 => ?_)
      · have e1 : i + lk_fr (M 7) k (r + 1) (5 * q + i) = i := by rw [e0, if_neg (Int32.not_lt.mpr h2)]; rfl
        rw [e1] at kk
        exact kk ls hl
      · refine lv_iinc (k := 0) (v := nI (i + 1)) hx hb d_MO_from_26 hl rfl (nI_1 _) (by decide) rfl (fun ls hl => ?_)
        have hl : lv_has ls 4 [(3, .int (nI (i + 1))), (0, .ref (ad 0)), (1, .int (nI q)), (2, .int k)] := hl
        refine lv_goto (tgt := 2) hx hb d_MO_from_29 (by decide) ?_
        refine ih (i + 1) (by omega) ls hl (fun ls hl => kk ls ?_)
        have e1 : i + lk_fr (M 7) k (r + 1) (5 * q + i) = i + 1 + lk_fr (M 7) k r (5 * q + (i + 1)) := by rw [e0, if_pos (Int32.not_le.mp h2), show 5 * q + (i + 1) = 5 * q + i + 1 by omega]; omega
        rw [e1]
        exact hl
end
def lk_at (σ : lk_M) (p n : Nat) (k : Int32) : Nat := lk_fr (σ 7) k n (5 * p)
theorem lk_at_le (σ : lk_M) (p n : Nat) (k : Int32) : lk_at σ p n k ≤ n := lk_fr_le _ _ _ _
set_option maxRecDepth 20000 in
theorem c_MO_from (l : Launch) (D : va_G) (τ : Nat → ClassId) (ad : Nat → Nat) (M : lk_M) (q n : Nat) (hq : q < 24) (hc : M 5 q = nI n) (hn : n ≤ 5) (k : Int32) : lk_Ci l D τ 25 ad (lk_me τ ad) y_MO_from b_MO_from 4 (.int) 0 0 [.ref (ad 0), .int (nI q), .int k] M (fun r M1 => r = nI (lk_at M q n k) ∧ M1 = M) := by
  refine lk_openi (by decide +kernel) (Nat.le_of_ble_eq_true rfl) ?_
  intro pg en s m args below meth cd ls A X h hA hl
  obtain ⟨hx, hb, -⟩ := id X
  have hl : lv_has ls 4 [(0, .ref (ad 0)), (1, .int (nI q)), (2, .int k)] := hl
  refine lv_iconst (v := nI 0) hx hb d_MO_from_0 (by decide) ?_
  refine lv_istore_n hx hb d_MO_from_1 rfl hl (by decide) rfl (fun ls hl => ?_)
  have hl : lv_has ls 4 [(3, .int (nI 0)), (0, .ref (ad 0)), (1, .int (nI q)), (2, .int k)] := hl
  refine w_MO_from X h hq hc hn n 0 (by omega) ls hl (fun ls hl => ?_)
  refine lv_iload_n hx hb d_MO_from_32 rfl (lv_at hl 0 rfl) ?_
  rw [Nat.zero_add, Nat.add_zero]
  exact lk_reti X h d_MO_from_33 (⟨rfl, rfl⟩)
def lk_hk (σ : lk_M) (p n : Nat) (k : Int32) : Prop := lk_at σ p n k < n ∧ σ 7 (5 * p + lk_at σ p n k) = k
set_option maxRecDepth 20000 in
theorem c_MO_has (l : Launch) (D : va_G) (τ : Nat → ClassId) (ad : Nat → Nat) (M : lk_M) (q n : Nat) (hq : q < 24) (hc : M 5 q = nI n) (hn : n ≤ 5) (k : Int32) : lk_Ci l D τ 25 ad (lk_me τ ad) y_MO_has b_MO_has 4 (.boolean) 1 23 [.ref (ad 0), .int (nI q), .int k] M (fun r M1 => (r = 1 ∧ lk_hk M q n k ∨ r = 0 ∧ ¬ lk_hk M q n k) ∧ M1 = M) := by
  refine lk_openi (by decide +kernel) (Nat.le_of_ble_eq_true rfl) ?_
  intro pg en s m args below meth cd ls A X h hA hl
  obtain ⟨hx, hb, -⟩ := id X
  have hl : lv_has ls 4 [(0, .ref (ad 0)), (1, .int (nI q)), (2, .int k)] := hl
  have hle := lk_at_le M q n k
  refine lv_aload_n hx hb d_MO_has_0 rfl (lv_at hl 0 rfl) ?_
  refine lv_iload_n hx hb d_MO_has_1 rfl (lv_at hl 1 rfl) ?_
  refine lv_iload_n hx hb d_MO_has_2 rfl (lv_at hl 2 rfl) ?_
  refine lk_goi (lk_runV (As := [.int (nI q), .int k]) (C := R_MO) X h (c_MO_from l D τ ad M q n hq hc hn k) ⟨gc_MO_from, gm_MO_87, gn_MO, gd_MO_from, by decide, by decide⟩ gi_MO_from gs_MO_from ⟨0, 4, _, _, _, lk_w_get (by decide), rfl⟩ rfl hl.1 (Nat.le_of_ble_eq_true rfl) d_MO_has_3 ⟨Nat.zero_le _, Nat.zero_le _⟩) h hA (fun r3 σ3 H locs hk9 h => ?_)
  rw [hk9.2] at h
  rw [hk9.1]
  refine lv_istore_n hx hb d_MO_has_6 rfl hl (by decide) rfl (fun ls hl => ?_)
  have hl : lv_has ls 4 [(3, .int (nI (lk_at M q n k))), (0, .ref (ad 0)), (1, .int (nI q)), (2, .int k)] := hl
  refine lv_iload_n hx hb d_MO_has_7 rfl (lv_at hl 0 rfl) ?_
  refine lv_aload_n hx hb d_MO_has_8 rfl (lv_at hl 1 rfl) ?_
  refine mo_get X rfl h 6 (by decide) rfl gf_MO_25 rfl d_MO_has_9 ?_
  refine lv_iload_n hx hb d_MO_has_12 rfl (lv_at hl 2 rfl) ?_
  refine mo_ald X h 5 24 rfl (by decide) (j := q) (by omega) (by decide) d_MO_has_13 ?_
  refine lk_top (nI n) (hc) ?_
  refine lk_cN_ge (tgt := 35) hx hb (by omega) (by omega) d_MO_has_14 (by decide) (fun h1 => ?_) (fun h1 => ?_)
  · refine lv_iconst (v := 0) hx hb d_MO_has_35 (by decide) ?_
    exact lk_retz X h d_MO_has_36 (by decide) (⟨Or.inr ⟨rfl, fun z => absurd z.1 (by omega)⟩, rfl⟩)
  · refine lv_aload_n hx hb d_MO_has_17 rfl (lv_at hl 1 rfl) ?_
    refine mo_get X rfl h 8 (by decide) rfl gf_MO_31 rfl d_MO_has_18 ?_
    refine lv_iconst (v := nI 5) hx hb d_MO_has_21 (by decide) ?_
    refine lv_iload_n hx hb d_MO_has_22 rfl (lv_at hl 2 rfl) ?_
    refine lk_imulN hx hb d_MO_has_23 ?_
    refine lv_iload_n hx hb d_MO_has_24 rfl (lv_at hl 0 rfl) ?_
    refine lk_iaddN hx hb d_MO_has_25 ?_
    refine mo_ald X h 7 120 rfl (by decide) (j := 5 * q + lk_at M q n k) (by omega) (by decide) d_MO_has_26 ?_
    refine lv_iload_n hx hb d_MO_has_27 rfl (lv_at hl 3 rfl) ?_
    refine lv_icmp_ne (tgt := 35) hx hb d_MO_has_28 (by decide) (fun h2 => ?_) (fun h2 => ?_)
    · refine lv_iconst (v := 0) hx hb d_MO_has_35 (by decide) ?_
      exact lk_retz X h d_MO_has_36 (by decide) (⟨Or.inr ⟨rfl, fun z => h2 z.2⟩, rfl⟩)
    · refine lv_iconst (v := 1) hx hb d_MO_has_31 (by decide) ?_
      refine lv_goto (tgt := 36) hx hb d_MO_has_32 (by decide) ?_
      exact lk_retz X h d_MO_has_36 (by decide) (⟨Or.inl ⟨rfl, h1, h2⟩, rfl⟩)
