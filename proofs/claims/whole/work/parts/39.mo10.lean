def mm_bj (M : lk_M) (t nq rt x : Nat) : lk_M :=
  if nq = 0 then lk_st M 15 t 0 else if x = rt then lk_lq (lk_st M 15 t 0) (nI x) nq else lk_st (lk_st (lk_st (lk_lq (lk_st M 15 t 0) (nI x) nq) 18 t (nI x)) 15 t (M 3 x)) 16 t (M 1 x + 1)
theorem lk_lq_r {σ : lk_M} {x : Int32} {n : Nat} : lk_lq σ x n 24 0 = σ 24 0 := by
  unfold lk_lq
  simp only [lk_up_eq, upd]
  simp
set_option maxRecDepth 20000 in
theorem c_MO_beginJoin (l : Launch) (D : va_G) (τ : Nat → ClassId) (ad : Nat → Nat) (M : lk_M) (t nq rt x : Nat) (ht : t < 4) (hnq : nq ≤ 12) (hq0 : M 24 1 = nI nq) (hrt : rt < 24) (hr0 : M 24 0 = nI rt) (hx0 : 0 < nq → x < 24 ∧ M 10 0 = nI x) : lk_Cv l D τ 25 ad (lk_me τ ad) y_MO_beginJoin b_MO_beginJoin 3 1 23 [.ref (ad 0), .int (nI t)] M (fun M1 => M1 = mm_bj M t nq rt x) := by
  refine lk_openv (by decide +kernel) (Nat.le_of_ble_eq_true rfl) ?_
  intro pg en s m args below meth cd ls A X h hA hl
  obtain ⟨hx, hb, -⟩ := id X
  have hl : lv_has ls 3 [(0, .ref (ad 0)), (1, .int (nI t))] := hl
  refine lv_aload_n hx hb d_MO_beginJoin_0 rfl (lv_at hl 0 rfl) ?_
  refine mo_get X rfl h 18 (by decide) rfl gf_MO_56 rfl d_MO_beginJoin_1 ?_
  refine lv_iload_n hx hb d_MO_beginJoin_4 rfl (lv_at hl 1 rfl) ?_
  refine lv_iconst (v := 0) hx hb d_MO_beginJoin_5 (by decide) ?_
  refine mo_ast X h 15 4 rfl (by decide) (j := t) (v := 0) (by omega) (by decide) d_MO_beginJoin_6 (fun H locs h => ?_)
  refine lv_aload_n hx hb d_MO_beginJoin_7 rfl (lv_at hl 0 rfl) ?_
  refine mo_get X rfl h 12 (by decide) rfl gf_MO_91 rfl d_MO_beginJoin_8 ?_
  refine lk_top (nI nq) ((lk_st_f (by decide)).trans (hq0)) ?_
  refine lv_if_ne (tgt := 15) hx hb d_MO_beginJoin_11 (by decide) (fun h11 => ?_) (fun h11 => ?_)
  · have hne : nq ≠ 0 := fun z => h11 (by rw [z]; rfl)
    obtain ⟨hx1, hx2⟩ := hx0 (by omega)
    refine lv_aload_n hx hb d_MO_beginJoin_15 rfl (lv_at hl 0 rfl) ?_
    refine mo_get X rfl h 13 (by decide) rfl gf_MO_40 rfl d_MO_beginJoin_16 ?_
    refine lv_iconst (v := nI 0) hx hb d_MO_beginJoin_19 (by decide) ?_
    refine mo_ald X h 10 12 rfl (by decide) (j := 0) (by omega) (by decide) d_MO_beginJoin_20 ?_
    refine lk_top (nI x) ((lk_st_f (by decide)).trans (hx2)) ?_
    refine lv_istore_n hx hb d_MO_beginJoin_21 rfl hl (by decide) rfl (fun ls hl => ?_)
    have hl : lv_has ls 3 [(2, .int (nI x)), (0, .ref (ad 0)), (1, .int (nI t))] := hl
    refine lv_aload_n hx hb d_MO_beginJoin_22 rfl (lv_at hl 1 rfl) ?_
    refine lv_iload_n hx hb d_MO_beginJoin_23 rfl (lv_at hl 0 rfl) ?_
    refine lk_gov (lk_runV (As := [.int (nI x)]) (C := R_MO) X h (c_MO_leaveQueue l D τ ad _ nq ((lk_st_f (by decide)).trans hq0) hnq (nI x)) ⟨gc_MO_leaveQueue, gm_MO_94, gn_MO, gd_MO_leaveQueue, by decide, by decide⟩ gi_MO_leaveQueue gs_MO_leaveQueue ⟨0, 4, _, _, _, lk_w_get (by decide), rfl⟩ rfl hl.1 (Nat.le_of_ble_eq_true rfl) d_MO_beginJoin_24 ⟨Nat.zero_le _, Nat.zero_le _⟩) h hA (fun σ24 H locs hk9 h => ?_)
    rw [hk9] at h
    refine lv_iload_n hx hb d_MO_beginJoin_27 rfl (lv_at hl 0 rfl) ?_
    refine lv_aload_n hx hb d_MO_beginJoin_28 rfl (lv_at hl 1 rfl) ?_
    refine mo_get X rfl h 11 (by decide) rfl gf_MO_108 rfl d_MO_beginJoin_29 ?_
    refine lk_top (nI rt) (lk_lq_r.trans ((lk_st_f (by decide)).trans hr0)) ?_
    refine lk_cN_ne (tgt := 36) hx hb (by omega) (by omega) d_MO_beginJoin_32 (by decide) (fun h32 => ?_) (fun h32 => ?_)
    · refine lv_aload_n hx hb d_MO_beginJoin_36 rfl (lv_at hl 1 rfl) ?_
      refine mo_get X rfl h 21 (by decide) rfl gf_MO_65 rfl d_MO_beginJoin_37 ?_
      refine lv_iload_n hx hb d_MO_beginJoin_40 rfl (lv_at hl 2 rfl) ?_
      refine lv_iload_n hx hb d_MO_beginJoin_41 rfl (lv_at hl 0 rfl) ?_
      refine mo_ast X h 18 4 rfl (by decide) (j := t) (v := nI x) (by omega) (by decide) d_MO_beginJoin_42 (fun H locs h => ?_)
      refine lv_aload_n hx hb d_MO_beginJoin_43 rfl (lv_at hl 1 rfl) ?_
      refine mo_get X rfl h 18 (by decide) rfl gf_MO_56 rfl d_MO_beginJoin_44 ?_
      refine lv_iload_n hx hb d_MO_beginJoin_47 rfl (lv_at hl 2 rfl) ?_
      refine lv_aload_n hx hb d_MO_beginJoin_48 rfl (lv_at hl 1 rfl) ?_
      refine mo_get X rfl h 4 (by decide) rfl gf_MO_19 rfl d_MO_beginJoin_49 ?_
      refine lv_iload_n hx hb d_MO_beginJoin_52 rfl (lv_at hl 0 rfl) ?_
      refine mo_ald X h 3 24 rfl (by decide) (j := x) (by omega) (by decide) d_MO_beginJoin_53 ?_
      refine lk_top (M 3 x) ((lk_st_f (by decide)).trans ((lk_lq_f (by decide) (by decide)).trans (lk_st_f (by decide)))) ?_
      refine mo_ast X h 15 4 rfl (by decide) (j := t) (v := M 3 x) (by omega) (by decide) d_MO_beginJoin_54 (fun H locs h => ?_)
      refine lv_aload_n hx hb d_MO_beginJoin_55 rfl (lv_at hl 1 rfl) ?_
      refine mo_get X rfl h 19 (by decide) rfl gf_MO_59 rfl d_MO_beginJoin_56 ?_
      refine lv_iload_n hx hb d_MO_beginJoin_59 rfl (lv_at hl 2 rfl) ?_
      refine lv_aload_n hx hb d_MO_beginJoin_60 rfl (lv_at hl 1 rfl) ?_
      refine mo_get X rfl h 2 (by decide) rfl gf_MO_13 rfl d_MO_beginJoin_61 ?_
      refine lv_iload_n hx hb d_MO_beginJoin_64 rfl (lv_at hl 0 rfl) ?_
      refine mo_ald X h 1 24 rfl (by decide) (j := x) (by omega) (by decide) d_MO_beginJoin_65 ?_
      refine lk_top (M 1 x) ((lk_st_f (by decide)).trans ((lk_st_f (by decide)).trans ((lk_lq_f (by decide) (by decide)).trans (lk_st_f (by decide))))) ?_
      refine lv_iconst (v := 1) hx hb d_MO_beginJoin_66 (by decide) ?_
      refine lv_iadd hx hb d_MO_beginJoin_67 ?_
      refine mo_ast X h 16 4 rfl (by decide) (j := t) (v := (M 1 x) + 1) (by omega) (by decide) d_MO_beginJoin_68 (fun H locs h => ?_)
      exact lk_retv X h d_MO_beginJoin_69 (by rw [mm_bj, if_neg hne, if_neg h32])
    · exact lk_retv X h d_MO_beginJoin_35 (by rw [mm_bj, if_neg hne, if_pos h32])
  · exact lk_retv X h d_MO_beginJoin_14 (by rw [mm_bj, if_pos (show nq = 0 from (nI_eq (b := 0) (by omega) (by omega)).mp h11)])
def mm_beg0 (M : lk_M) (t : Nat) (o k v : Int32) : lk_M :=
  lk_srch (lk_nop (lk_st (lk_st (lk_st (lk_st (lk_st (lk_st M 11 t 1) 12 t o) 15 t k) 16 t 0) 17 t v) 18 t (-1)) t) t (M 24 0)
def lk_bok (x o k : Int32) : Prop := (0 ≤ x ∧ x ≤ 3) ∧ (0 ≤ o ∧ o ≤ 3) ∧ (o = 3 ∨ (0 ≤ k ∧ k ≤ 999))
set_option maxRecDepth 20000 in
theorem c_MO_begin_bad (l : Launch) (D : va_G) (τ : Nat → ClassId) (ad : Nat → Nat) (M : lk_M) (x o k v : Int32) (hbad : ¬ lk_bok x o k) : lk_Cv l D τ 25 ad (lk_me τ ad) y_MO_begin b_MO_begin 5 2 45 [.ref (ad 0), .int x, .int o, .int k, .int v] M (fun M1 => M1 = lk_st M 24 2 1) := by
  refine lk_openv (by decide +kernel) (Nat.le_of_ble_eq_true rfl) ?_
  intro pg en s m args below meth cd ls A X h hA hl
  obtain ⟨hx, hb, -⟩ := id X
  have hl : lv_has ls 5 [(0, .ref (ad 0)), (1, .int x), (2, .int o), (3, .int k), (4, .int v)] := hl
  refine lv_aload_n hx hb d_MO_begin_0 rfl (lv_at hl 0 rfl) ?_
  refine lv_aload_n hx hb d_MO_begin_1 rfl (lv_at hl 0 rfl) ?_
  refine lv_iload_n hx hb d_MO_begin_2 rfl (lv_at hl 1 rfl) ?_
  by_cases h1 : 0 ≤ x ∧ x ≤ 3
  · refine lk_goi (lk_runV (As := [.int x]) (C := R_MO) X h (c_MO_isTask l D τ ad M x) ⟨gc_MO_isTask, gm_MO_115, gn_MO, gd_MO_isTask, by decide, by decide⟩ gi_MO_isTask gs_MO_isTask ⟨0, 4, _, _, _, lk_w_get (by decide), rfl⟩ rfl hl.1 (Nat.le_of_ble_eq_true rfl) d_MO_begin_3 ⟨Nat.zero_le _, Nat.zero_le _⟩) h hA (fun r3 σ3 H locs hk9 h => ?_)
    rw [hk9.2] at h
    rw [hk9.1, if_pos h1]
    refine lv_if_eq (tgt := 34) hx hb d_MO_begin_6 (by decide) (fun z => absurd z (by decide)) (fun _ => ?_)
    refine lv_iload_n hx hb d_MO_begin_9 rfl (lv_at hl 2 rfl) ?_
    refine lv_iconst (v := 0) hx hb d_MO_begin_10 (by decide) ?_
    refine lv_iconst (v := 3) hx hb d_MO_begin_11 (by decide) ?_
    by_cases h2 : 0 ≤ o ∧ o ≤ 3
    · refine lk_goi (lk_runS (As := [.int o, .int 0, .int 3]) X h (c_MO_within l D τ ad M o 0 3) ⟨gc_MO_within, gm_MO_101, gn_MO, gd_MO_within, by decide, by decide⟩ gt_MO_within rfl hl.1 (Nat.le_of_ble_eq_true rfl) d_MO_begin_12 ⟨Nat.zero_le _, Nat.zero_le _⟩) h hA (fun r12 σ12 H locs hk9 h => ?_)
      rw [hk9.2] at h
      rw [hk9.1, if_pos h2]
      refine lv_if_eq (tgt := 34) hx hb d_MO_begin_15 (by decide) (fun z => absurd z (by decide)) (fun _ => ?_)
      refine lv_iload_n hx hb d_MO_begin_18 rfl (lv_at hl 2 rfl) ?_
      refine lv_iconst (v := 3) hx hb d_MO_begin_19 (by decide) ?_
      refine lv_icmp_eq (tgt := 38) hx hb d_MO_begin_20 (by decide) (fun h3 => ?_) (fun h3 => ?_)
      · exact absurd ⟨h1, h2, Or.inl h3⟩ hbad
      · refine lv_iload_n hx hb d_MO_begin_23 rfl (lv_at hl 3 rfl) ?_
        refine lv_iconst (v := 0) hx hb d_MO_begin_24 (by decide) ?_
        refine lv_sipush (v := 999) hx hb d_MO_begin_25 (by decide) ?_
        refine lk_goi (lk_runS (As := [.int k, .int 0, .int 999]) X h (c_MO_within l D τ ad M k 0 999) ⟨gc_MO_within, gm_MO_101, gn_MO, gd_MO_within, by decide, by decide⟩ gt_MO_within rfl hl.1 (Nat.le_of_ble_eq_true rfl) d_MO_begin_28 ⟨Nat.zero_le _, Nat.zero_le _⟩) h hA (fun r28 σ28 H locs hk9 h => ?_)
        rw [hk9.2] at h
        rw [hk9.1, if_neg (fun z => hbad ⟨h1, h2, Or.inr z⟩)]
        refine lv_if_ne (tgt := 38) hx hb d_MO_begin_31 (by decide) (fun z => absurd z (by decide)) (fun _ => ?_)
        refine lv_iconst (v := 1) hx hb d_MO_begin_34 (by decide) ?_
        refine lv_goto (tgt := 39) hx hb d_MO_begin_35 (by decide) ?_
        refine lv_iconst (v := 1) hx hb d_MO_begin_39 (by decide) ?_
        refine lk_goi (lk_runV (As := [.int 1, .int 1]) (C := R_MO) X h (c_MO_fails l D τ ad _ 1 1 (by decide)) ⟨gc_MO_fails, gm_MO_119, gn_MO, gd_MO_fails, by decide, by decide⟩ gi_MO_fails gs_MO_fails ⟨0, 4, _, _, _, lk_w_get (by decide), rfl⟩ rfl hl.1 (Nat.le_of_ble_eq_true rfl) d_MO_begin_40 ⟨Nat.zero_le _, Nat.zero_le _⟩) h hA (fun r40 σ40 H locs hk9 h => ?_)
        rw [hk9.2, if_neg (by decide)] at h
        rw [hk9.1]
        refine lv_if_ne (tgt := 60) hx hb d_MO_begin_43 (by decide) (fun _ => ?_) (fun z => absurd z (by decide))
        exact lk_retv X h d_MO_begin_60 (rfl)
    · refine lk_goi (lk_runS (As := [.int o, .int 0, .int 3]) X h (c_MO_within l D τ ad M o 0 3) ⟨gc_MO_within, gm_MO_101, gn_MO, gd_MO_within, by decide, by decide⟩ gt_MO_within rfl hl.1 (Nat.le_of_ble_eq_true rfl) d_MO_begin_12 ⟨Nat.zero_le _, Nat.zero_le _⟩) h hA (fun r12 σ12 H locs hk9 h => ?_)
      rw [hk9.2] at h
      rw [hk9.1, if_neg h2]
      refine lv_if_eq (tgt := 34) hx hb d_MO_begin_15 (by decide) (fun _ => ?_) (fun z => absurd z (by decide))
      refine lv_iconst (v := 1) hx hb d_MO_begin_34 (by decide) ?_
      refine lv_goto (tgt := 39) hx hb d_MO_begin_35 (by decide) ?_
      refine lv_iconst (v := 1) hx hb d_MO_begin_39 (by decide) ?_
      refine lk_goi (lk_runV (As := [.int 1, .int 1]) (C := R_MO) X h (c_MO_fails l D τ ad _ 1 1 (by decide)) ⟨gc_MO_fails, gm_MO_119, gn_MO, gd_MO_fails, by decide, by decide⟩ gi_MO_fails gs_MO_fails ⟨0, 4, _, _, _, lk_w_get (by decide), rfl⟩ rfl hl.1 (Nat.le_of_ble_eq_true rfl) d_MO_begin_40 ⟨Nat.zero_le _, Nat.zero_le _⟩) h hA (fun r40 σ40 H locs hk9 h => ?_)
      rw [hk9.2, if_neg (by decide)] at h
      rw [hk9.1]
      refine lv_if_ne (tgt := 60) hx hb d_MO_begin_43 (by decide) (fun _ => ?_) (fun z => absurd z (by decide))
      exact lk_retv X h d_MO_begin_60 (rfl)
  · refine lk_goi (lk_runV (As := [.int x]) (C := R_MO) X h (c_MO_isTask l D τ ad M x) ⟨gc_MO_isTask, gm_MO_115, gn_MO, gd_MO_isTask, by decide, by decide⟩ gi_MO_isTask gs_MO_isTask ⟨0, 4, _, _, _, lk_w_get (by decide), rfl⟩ rfl hl.1 (Nat.le_of_ble_eq_true rfl) d_MO_begin_3 ⟨Nat.zero_le _, Nat.zero_le _⟩) h hA (fun r3 σ3 H locs hk9 h => ?_)
    rw [hk9.2] at h
    rw [hk9.1, if_neg h1]
    refine lv_if_eq (tgt := 34) hx hb d_MO_begin_6 (by decide) (fun _ => ?_) (fun z => absurd z (by decide))
    refine lv_iconst (v := 1) hx hb d_MO_begin_34 (by decide) ?_
    refine lv_goto (tgt := 39) hx hb d_MO_begin_35 (by decide) ?_
    refine lv_iconst (v := 1) hx hb d_MO_begin_39 (by decide) ?_
    refine lk_goi (lk_runV (As := [.int 1, .int 1]) (C := R_MO) X h (c_MO_fails l D τ ad _ 1 1 (by decide)) ⟨gc_MO_fails, gm_MO_119, gn_MO, gd_MO_fails, by decide, by decide⟩ gi_MO_fails gs_MO_fails ⟨0, 4, _, _, _, lk_w_get (by decide), rfl⟩ rfl hl.1 (Nat.le_of_ble_eq_true rfl) d_MO_begin_40 ⟨Nat.zero_le _, Nat.zero_le _⟩) h hA (fun r40 σ40 H locs hk9 h => ?_)
    rw [hk9.2, if_neg (by decide)] at h
    rw [hk9.1]
    refine lv_if_ne (tgt := 60) hx hb d_MO_begin_43 (by decide) (fun _ => ?_) (fun z => absurd z (by decide))
    exact lk_retv X h d_MO_begin_60 (rfl)
set_option maxRecDepth 20000 in
theorem c_MO_begin_no (l : Launch) (D : va_G) (τ : Nat → ClassId) (ad : Nat → Nat) (M : lk_M) (t : Nat) (ht : t < 4) (o k v : Int32) (hok : lk_bok (nI t) o k) (hbu : M 11 t = 1) : lk_Cv l D τ 25 ad (lk_me τ ad) y_MO_begin b_MO_begin 5 2 45 [.ref (ad 0), .int (nI t), .int o, .int k, .int v] M (fun M1 => M1 = lk_st M 24 2 2) := by
  refine lk_openv (by decide +kernel) (Nat.le_of_ble_eq_true rfl) ?_
  intro pg en s m args below meth cd ls A X h hA hl
  obtain ⟨hx, hb, -⟩ := id X
  have hl : lv_has ls 5 [(0, .ref (ad 0)), (1, .int (nI t)), (2, .int o), (3, .int k), (4, .int v)] := hl
  obtain ⟨h1, h2, h3⟩ := hok
  refine lv_aload_n hx hb d_MO_begin_0 rfl (lv_at hl 0 rfl) ?_
  refine lv_aload_n hx hb d_MO_begin_1 rfl (lv_at hl 0 rfl) ?_
  refine lv_iload_n hx hb d_MO_begin_2 rfl (lv_at hl 1 rfl) ?_
  refine lk_goi (lk_runV (As := [.int (nI t)]) (C := R_MO) X h (c_MO_isTask l D τ ad M (nI t)) ⟨gc_MO_isTask, gm_MO_115, gn_MO, gd_MO_isTask, by decide, by decide⟩ gi_MO_isTask gs_MO_isTask ⟨0, 4, _, _, _, lk_w_get (by decide), rfl⟩ rfl hl.1 (Nat.le_of_ble_eq_true rfl) d_MO_begin_3 ⟨Nat.zero_le _, Nat.zero_le _⟩) h hA (fun r3 σ3 H locs hk9 h => ?_)
  rw [hk9.2] at h
  rw [hk9.1, if_pos h1]
  refine lv_if_eq (tgt := 34) hx hb d_MO_begin_6 (by decide) (fun z => absurd z (by decide)) (fun _ => ?_)
  refine lv_iload_n hx hb d_MO_begin_9 rfl (lv_at hl 2 rfl) ?_
  refine lv_iconst (v := 0) hx hb d_MO_begin_10 (by decide) ?_
  refine lv_iconst (v := 3) hx hb d_MO_begin_11 (by decide) ?_
  refine lk_goi (lk_runS (As := [.int o, .int 0, .int 3]) X h (c_MO_within l D τ ad M o 0 3) ⟨gc_MO_within, gm_MO_101, gn_MO, gd_MO_within, by decide, by decide⟩ gt_MO_within rfl hl.1 (Nat.le_of_ble_eq_true rfl) d_MO_begin_12 ⟨Nat.zero_le _, Nat.zero_le _⟩) h hA (fun r12 σ12 H locs hk9 h => ?_)
  rw [hk9.2] at h
  rw [hk9.1, if_pos h2]
  refine lv_if_eq (tgt := 34) hx hb d_MO_begin_15 (by decide) (fun z => absurd z (by decide)) (fun _ => ?_)
  refine lv_iload_n hx hb d_MO_begin_18 rfl (lv_at hl 2 rfl) ?_
  refine lv_iconst (v := 3) hx hb d_MO_begin_19 (by decide) ?_
  refine lv_icmp_eq (tgt := 38) hx hb d_MO_begin_20 (by decide) (fun h4 => ?_) (fun h4 => ?_)
  · refine lv_iconst (v := 0) hx hb d_MO_begin_38 (by decide) ?_
    refine lv_iconst (v := 1) hx hb d_MO_begin_39 (by decide) ?_
    refine lk_goi (lk_runV (As := [.int 0, .int 1]) (C := R_MO) X h (c_MO_fails l D τ ad _ 0 1 (by decide)) ⟨gc_MO_fails, gm_MO_119, gn_MO, gd_MO_fails, by decide, by decide⟩ gi_MO_fails gs_MO_fails ⟨0, 4, _, _, _, lk_w_get (by decide), rfl⟩ rfl hl.1 (Nat.le_of_ble_eq_true rfl) d_MO_begin_40 ⟨Nat.zero_le _, Nat.zero_le _⟩) h hA (fun r40 σ40 H locs hk9 h => ?_)
    rw [hk9.2, if_pos rfl] at h
    rw [hk9.1]
    refine lv_if_ne (tgt := 60) hx hb d_MO_begin_43 (by decide) (fun z => absurd z (by decide)) (fun _ => ?_)
    refine lv_aload_n hx hb d_MO_begin_46 rfl (lv_at hl 0 rfl) ?_
    refine lv_aload_n hx hb d_MO_begin_47 rfl (lv_at hl 0 rfl) ?_
    refine mo_get X rfl h 14 (by decide) rfl gf_MO_43 rfl d_MO_begin_48 ?_
    refine lv_iload_n hx hb d_MO_begin_51 rfl (lv_at hl 1 rfl) ?_
    refine mo_zald X h 11 (by decide) (j := t) (by omega) d_MO_begin_52 ?_
    refine lk_top 1 ((lk_st_f (by decide)).trans hbu) ?_
    refine lv_iconst (v := 2) hx hb d_MO_begin_53 (by decide) ?_
    refine lk_goi (lk_runV (As := [.int 1, .int 2]) (C := R_MO) X h (c_MO_fails l D τ ad _ 1 2 (by decide)) ⟨gc_MO_fails, gm_MO_119, gn_MO, gd_MO_fails, by decide, by decide⟩ gi_MO_fails gs_MO_fails ⟨0, 4, _, _, _, lk_w_get (by decide), rfl⟩ rfl hl.1 (Nat.le_of_ble_eq_true rfl) d_MO_begin_54 ⟨Nat.zero_le _, Nat.zero_le _⟩) h hA (fun r54 σ54 H locs hk9 h => ?_)
    rw [hk9.2, if_neg (by decide)] at h
    rw [hk9.1]
    rw [lk_st_st] at h
    refine lv_if_eq (tgt := 61) hx hb d_MO_begin_57 (by decide) (fun z => absurd z (by decide)) (fun _ => ?_)
    exact lk_retv X h d_MO_begin_60 (rfl)
  · refine lv_iload_n hx hb d_MO_begin_23 rfl (lv_at hl 3 rfl) ?_
    refine lv_iconst (v := 0) hx hb d_MO_begin_24 (by decide) ?_
    refine lv_sipush (v := 999) hx hb d_MO_begin_25 (by decide) ?_
    refine lk_goi (lk_runS (As := [.int k, .int 0, .int 999]) X h (c_MO_within l D τ ad M k 0 999) ⟨gc_MO_within, gm_MO_101, gn_MO, gd_MO_within, by decide, by decide⟩ gt_MO_within rfl hl.1 (Nat.le_of_ble_eq_true rfl) d_MO_begin_28 ⟨Nat.zero_le _, Nat.zero_le _⟩) h hA (fun r28 σ28 H locs hk9 h => ?_)
    rw [hk9.2] at h
    rw [hk9.1, if_pos (h3.resolve_left h4)]
    refine lv_if_ne (tgt := 38) hx hb d_MO_begin_31 (by decide) (fun _ => ?_) (fun z => absurd z (by decide))
    refine lv_iconst (v := 0) hx hb d_MO_begin_38 (by decide) ?_
    refine lv_iconst (v := 1) hx hb d_MO_begin_39 (by decide) ?_
    refine lk_goi (lk_runV (As := [.int 0, .int 1]) (C := R_MO) X h (c_MO_fails l D τ ad _ 0 1 (by decide)) ⟨gc_MO_fails, gm_MO_119, gn_MO, gd_MO_fails, by decide, by decide⟩ gi_MO_fails gs_MO_fails ⟨0, 4, _, _, _, lk_w_get (by decide), rfl⟩ rfl hl.1 (Nat.le_of_ble_eq_true rfl) d_MO_begin_40 ⟨Nat.zero_le _, Nat.zero_le _⟩) h hA (fun r40 σ40 H locs hk9 h => ?_)
    rw [hk9.2, if_pos rfl] at h
    rw [hk9.1]
    refine lv_if_ne (tgt := 60) hx hb d_MO_begin_43 (by decide) (fun z => absurd z (by decide)) (fun _ => ?_)
    refine lv_aload_n hx hb d_MO_begin_46 rfl (lv_at hl 0 rfl) ?_
    refine lv_aload_n hx hb d_MO_begin_47 rfl (lv_at hl 0 rfl) ?_
    refine mo_get X rfl h 14 (by decide) rfl gf_MO_43 rfl d_MO_begin_48 ?_
    refine lv_iload_n hx hb d_MO_begin_51 rfl (lv_at hl 1 rfl) ?_
    refine mo_zald X h 11 (by decide) (j := t) (by omega) d_MO_begin_52 ?_
    refine lk_top 1 ((lk_st_f (by decide)).trans hbu) ?_
    refine lv_iconst (v := 2) hx hb d_MO_begin_53 (by decide) ?_
    refine lk_goi (lk_runV (As := [.int 1, .int 2]) (C := R_MO) X h (c_MO_fails l D τ ad _ 1 2 (by decide)) ⟨gc_MO_fails, gm_MO_119, gn_MO, gd_MO_fails, by decide, by decide⟩ gi_MO_fails gs_MO_fails ⟨0, 4, _, _, _, lk_w_get (by decide), rfl⟩ rfl hl.1 (Nat.le_of_ble_eq_true rfl) d_MO_begin_54 ⟨Nat.zero_le _, Nat.zero_le _⟩) h hA (fun r54 σ54 H locs hk9 h => ?_)
    rw [hk9.2, if_neg (by decide)] at h
    rw [hk9.1]
    rw [lk_st_st] at h
    refine lv_if_eq (tgt := 61) hx hb d_MO_begin_57 (by decide) (fun z => absurd z (by decide)) (fun _ => ?_)
    exact lk_retv X h d_MO_begin_60 (rfl)
set_option maxRecDepth 20000 in
theorem c_MO_begin (l : Launch) (D : va_G) (τ : Nat → ClassId) (ad : Nat → Nat) (M : lk_M) (t nq rt x : Nat) (ht : t < 4) (o k v : Int32) (hok : lk_bok (nI t) o k) (hbu : M 11 t = 0) (hnq : nq ≤ 12) (hq0 : M 24 1 = nI nq) (hrt : rt < 24) (hr0 : M 24 0 = nI rt) (hx0 : 0 < nq → x < 24 ∧ M 10 0 = nI x) : lk_Cv l D τ 25 ad (lk_me τ ad) y_MO_begin b_MO_begin 5 2 45 [.ref (ad 0), .int (nI t), .int o, .int k, .int v] M (fun M1 => M1 = if o = 3 then mm_bj (mm_beg0 (lk_st M 24 2 0) t o k v) t nq rt x else mm_beg0 (lk_st M 24 2 0) t o k v) := by
  refine lk_openv (by decide +kernel) (Nat.le_of_ble_eq_true rfl) ?_
  intro pg en s m args below meth cd ls A X h hA hl
  obtain ⟨hx, hb, -⟩ := id X
  have hl : lv_has ls 5 [(0, .ref (ad 0)), (1, .int (nI t)), (2, .int o), (3, .int k), (4, .int v)] := hl
  obtain ⟨h1, h2, h3⟩ := hok
  refine lv_aload_n hx hb d_MO_begin_0 rfl (lv_at hl 0 rfl) ?_
  refine lv_aload_n hx hb d_MO_begin_1 rfl (lv_at hl 0 rfl) ?_
  refine lv_iload_n hx hb d_MO_begin_2 rfl (lv_at hl 1 rfl) ?_
  refine lk_goi (lk_runV (As := [.int (nI t)]) (C := R_MO) X h (c_MO_isTask l D τ ad M (nI t)) ⟨gc_MO_isTask, gm_MO_115, gn_MO, gd_MO_isTask, by decide, by decide⟩ gi_MO_isTask gs_MO_isTask ⟨0, 4, _, _, _, lk_w_get (by decide), rfl⟩ rfl hl.1 (Nat.le_of_ble_eq_true rfl) d_MO_begin_3 ⟨Nat.zero_le _, Nat.zero_le _⟩) h hA (fun r3 σ3 H locs hk9 h => ?_)
  rw [hk9.2] at h
  rw [hk9.1, if_pos h1]
  refine lv_if_eq (tgt := 34) hx hb d_MO_begin_6 (by decide) (fun z => absurd z (by decide)) (fun _ => ?_)
  refine lv_iload_n hx hb d_MO_begin_9 rfl (lv_at hl 2 rfl) ?_
  refine lv_iconst (v := 0) hx hb d_MO_begin_10 (by decide) ?_
  refine lv_iconst (v := 3) hx hb d_MO_begin_11 (by decide) ?_
  refine lk_goi (lk_runS (As := [.int o, .int 0, .int 3]) X h (c_MO_within l D τ ad M o 0 3) ⟨gc_MO_within, gm_MO_101, gn_MO, gd_MO_within, by decide, by decide⟩ gt_MO_within rfl hl.1 (Nat.le_of_ble_eq_true rfl) d_MO_begin_12 ⟨Nat.zero_le _, Nat.zero_le _⟩) h hA (fun r12 σ12 H locs hk9 h => ?_)
  rw [hk9.2] at h
  rw [hk9.1, if_pos h2]
  refine lv_if_eq (tgt := 34) hx hb d_MO_begin_15 (by decide) (fun z => absurd z (by decide)) (fun _ => ?_)
  refine lv_iload_n hx hb d_MO_begin_18 rfl (lv_at hl 2 rfl) ?_
  refine lv_iconst (v := 3) hx hb d_MO_begin_19 (by decide) ?_
  refine lv_icmp_eq (tgt := 38) hx hb d_MO_begin_20 (by decide) (fun h4 => ?_) (fun h4 => ?_)
  · refine lv_iconst (v := 0) hx hb d_MO_begin_38 (by decide) ?_
    refine lv_iconst (v := 1) hx hb d_MO_begin_39 (by decide) ?_
    refine lk_goi (lk_runV (As := [.int 0, .int 1]) (C := R_MO) X h (c_MO_fails l D τ ad _ 0 1 (by decide)) ⟨gc_MO_fails, gm_MO_119, gn_MO, gd_MO_fails, by decide, by decide⟩ gi_MO_fails gs_MO_fails ⟨0, 4, _, _, _, lk_w_get (by decide), rfl⟩ rfl hl.1 (Nat.le_of_ble_eq_true rfl) d_MO_begin_40 ⟨Nat.zero_le _, Nat.zero_le _⟩) h hA (fun r40 σ40 H locs hk9 h => ?_)
    rw [hk9.2, if_pos rfl] at h
    rw [hk9.1]
    refine lv_if_ne (tgt := 60) hx hb d_MO_begin_43 (by decide) (fun z => absurd z (by decide)) (fun _ => ?_)
    refine lv_aload_n hx hb d_MO_begin_46 rfl (lv_at hl 0 rfl) ?_
    refine lv_aload_n hx hb d_MO_begin_47 rfl (lv_at hl 0 rfl) ?_
    refine mo_get X rfl h 14 (by decide) rfl gf_MO_43 rfl d_MO_begin_48 ?_
    refine lv_iload_n hx hb d_MO_begin_51 rfl (lv_at hl 1 rfl) ?_
    refine mo_zald X h 11 (by decide) (j := t) (by omega) d_MO_begin_52 ?_
    refine lk_top 0 ((lk_st_f (by decide)).trans hbu) ?_
    refine lv_iconst (v := 2) hx hb d_MO_begin_53 (by decide) ?_
    refine lk_goi (lk_runV (As := [.int 0, .int 2]) (C := R_MO) X h (c_MO_fails l D τ ad _ 0 2 (by decide)) ⟨gc_MO_fails, gm_MO_119, gn_MO, gd_MO_fails, by decide, by decide⟩ gi_MO_fails gs_MO_fails ⟨0, 4, _, _, _, lk_w_get (by decide), rfl⟩ rfl hl.1 (Nat.le_of_ble_eq_true rfl) d_MO_begin_54 ⟨Nat.zero_le _, Nat.zero_le _⟩) h hA (fun r54 σ54 H locs hk9 h => ?_)
    rw [hk9.2, if_pos rfl] at h
    rw [hk9.1]
    rw [lk_st_st] at h
    refine lv_if_eq (tgt := 61) hx hb d_MO_begin_57 (by decide) (fun _ => ?_) (fun z => absurd z (by decide))
    refine lv_aload_n hx hb d_MO_begin_61 rfl (lv_at hl 0 rfl) ?_
    refine mo_get X rfl h 14 (by decide) rfl gf_MO_43 rfl d_MO_begin_62 ?_
    refine lv_iload_n hx hb d_MO_begin_65 rfl (lv_at hl 1 rfl) ?_
    refine lv_iconst (v := 1) hx hb d_MO_begin_66 (by decide) ?_
    refine mo_zast X h 11 (by decide) (j := t) (v := 1) (by decide) (by omega) d_MO_begin_67 (fun H locs h => ?_)
    refine lv_aload_n hx hb d_MO_begin_68 rfl (lv_at hl 0 rfl) ?_
    refine mo_get X rfl h 15 (by decide) rfl gf_MO_47 rfl d_MO_begin_69 ?_
    refine lv_iload_n hx hb d_MO_begin_72 rfl (lv_at hl 1 rfl) ?_
    refine lv_iload_n hx hb d_MO_begin_73 rfl (lv_at hl 2 rfl) ?_
    refine mo_ast X h 12 4 rfl (by decide) (j := t) (v := o) (by omega) (by decide) d_MO_begin_74 (fun H locs h => ?_)
    refine lv_aload_n hx hb d_MO_begin_75 rfl (lv_at hl 0 rfl) ?_
    refine mo_get X rfl h 18 (by decide) rfl gf_MO_56 rfl d_MO_begin_76 ?_
    refine lv_iload_n hx hb d_MO_begin_79 rfl (lv_at hl 1 rfl) ?_
    refine lv_iload_n hx hb d_MO_begin_80 rfl (lv_at hl 3 rfl) ?_
    refine mo_ast X h 15 4 rfl (by decide) (j := t) (v := k) (by omega) (by decide) d_MO_begin_81 (fun H locs h => ?_)
    refine lv_aload_n hx hb d_MO_begin_82 rfl (lv_at hl 0 rfl) ?_
    refine mo_get X rfl h 19 (by decide) rfl gf_MO_59 rfl d_MO_begin_83 ?_
    refine lv_iload_n hx hb d_MO_begin_86 rfl (lv_at hl 1 rfl) ?_
    refine lv_iconst (v := 0) hx hb d_MO_begin_87 (by decide) ?_
    refine mo_ast X h 16 4 rfl (by decide) (j := t) (v := 0) (by omega) (by decide) d_MO_begin_88 (fun H locs h => ?_)
    refine lv_aload_n hx hb d_MO_begin_89 rfl (lv_at hl 0 rfl) ?_
    refine mo_get X rfl h 20 (by decide) rfl gf_MO_62 rfl d_MO_begin_90 ?_
    refine lv_iload_n hx hb d_MO_begin_93 rfl (lv_at hl 1 rfl) ?_
    refine lv_iload hx hb d_MO_begin_94 (lv_at hl 4 rfl) ?_
    refine mo_ast X h 17 4 rfl (by decide) (j := t) (v := v) (by omega) (by decide) d_MO_begin_96 (fun H locs h => ?_)
    refine lv_aload_n hx hb d_MO_begin_97 rfl (lv_at hl 0 rfl) ?_
    refine mo_get X rfl h 21 (by decide) rfl gf_MO_65 rfl d_MO_begin_98 ?_
    refine lv_iload_n hx hb d_MO_begin_101 rfl (lv_at hl 1 rfl) ?_
    refine lv_iconst (v := (-1)) hx hb d_MO_begin_102 (by decide) ?_
    refine mo_ast X h 18 4 rfl (by decide) (j := t) (v := (-1)) (by omega) (by decide) d_MO_begin_103 (fun H locs h => ?_)
    refine lv_aload_n hx hb d_MO_begin_104 rfl (lv_at hl 0 rfl) ?_
    refine lv_iload_n hx hb d_MO_begin_105 rfl (lv_at hl 1 rfl) ?_
    refine lk_gov (lk_runV (As := [.int (nI t)]) (C := R_MO) X h (c_MO_forgetPath l D τ ad _ t ht) ⟨gc_MO_forgetPath, gm_MO_105, gn_MO, gd_MO_forgetPath, by decide, by decide⟩ gi_MO_forgetPath gs_MO_forgetPath ⟨0, 4, _, _, _, lk_w_get (by decide), rfl⟩ rfl hl.1 (Nat.le_of_ble_eq_true rfl) d_MO_begin_106 ⟨Nat.zero_le _, Nat.zero_le _⟩) h hA (fun σ106 H locs hk9 h => ?_)
    rw [hk9] at h
    refine lv_aload_n hx hb d_MO_begin_109 rfl (lv_at hl 0 rfl) ?_
    refine lv_iload_n hx hb d_MO_begin_110 rfl (lv_at hl 1 rfl) ?_
    refine lv_aload_n hx hb d_MO_begin_111 rfl (lv_at hl 0 rfl) ?_
    refine mo_get X rfl h 11 (by decide) rfl gf_MO_108 rfl d_MO_begin_112 ?_
    refine lk_top (lk_st M 24 2 0 24 0) (rfl) ?_
    refine lk_gov (lk_runV (As := [.int (nI t), .int (lk_st M 24 2 0 24 0)]) (C := R_MO) X h (c_MO_search l D τ ad _ t ht _) ⟨gc_MO_search, gm_MO_111, gn_MO, gd_MO_search, by decide, by decide⟩ gi_MO_search gs_MO_search ⟨0, 4, _, _, _, lk_w_get (by decide), rfl⟩ rfl hl.1 (Nat.le_of_ble_eq_true rfl) d_MO_begin_115 ⟨Nat.zero_le _, Nat.zero_le _⟩) h hA (fun σ115 H locs hk9 h => ?_)
    rw [hk9] at h
    refine lv_iload_n hx hb d_MO_begin_118 rfl (lv_at hl 2 rfl) ?_
    refine lv_iconst (v := 3) hx hb d_MO_begin_119 (by decide) ?_
    refine lv_icmp_ne (tgt := 128) hx hb d_MO_begin_120 (by decide) (fun h5 => ?_) (fun h5 => ?_)
    · exact lk_retv X h d_MO_begin_128 ((if_neg h5).symm)
    · refine lv_aload_n hx hb d_MO_begin_123 rfl (lv_at hl 0 rfl) ?_
      refine lv_iload_n hx hb d_MO_begin_124 rfl (lv_at hl 1 rfl) ?_
      refine lk_gov (lk_runV (As := [.int (nI t)]) (C := R_MO) X h (c_MO_beginJoin l D τ ad _ t nq rt x ht hnq ((show mm_beg0 (lk_st M 24 2 0) t o k v 24 1 = M 24 1 from rfl).trans hq0) hrt ((show mm_beg0 (lk_st M 24 2 0) t o k v 24 0 = M 24 0 from rfl).trans hr0) (fun z => let ⟨z1, z2⟩ := hx0 z; ⟨z1, (show mm_beg0 (lk_st M 24 2 0) t o k v 10 0 = M 10 0 from rfl).trans z2⟩)) ⟨gc_MO_beginJoin, gm_MO_123, gn_MO, gd_MO_beginJoin, by decide, by decide⟩ gi_MO_beginJoin gs_MO_beginJoin ⟨0, 4, _, _, _, lk_w_get (by decide), rfl⟩ rfl hl.1 (Nat.le_of_ble_eq_true rfl) d_MO_begin_125 ⟨Nat.zero_le _, Nat.zero_le _⟩) h hA (fun σ125 H locs hk9 h => ?_)
      rw [hk9] at h
      exact lk_retv X h d_MO_begin_128 ((if_pos h5).symm)
  · refine lv_iload_n hx hb d_MO_begin_23 rfl (lv_at hl 3 rfl) ?_
    refine lv_iconst (v := 0) hx hb d_MO_begin_24 (by decide) ?_
    refine lv_sipush (v := 999) hx hb d_MO_begin_25 (by decide) ?_
    refine lk_goi (lk_runS (As := [.int k, .int 0, .int 999]) X h (c_MO_within l D τ ad M k 0 999) ⟨gc_MO_within, gm_MO_101, gn_MO, gd_MO_within, by decide, by decide⟩ gt_MO_within rfl hl.1 (Nat.le_of_ble_eq_true rfl) d_MO_begin_28 ⟨Nat.zero_le _, Nat.zero_le _⟩) h hA (fun r28 σ28 H locs hk9 h => ?_)
    rw [hk9.2] at h
    rw [hk9.1, if_pos (h3.resolve_left h4)]
    refine lv_if_ne (tgt := 38) hx hb d_MO_begin_31 (by decide) (fun _ => ?_) (fun z => absurd z (by decide))
    refine lv_iconst (v := 0) hx hb d_MO_begin_38 (by decide) ?_
    refine lv_iconst (v := 1) hx hb d_MO_begin_39 (by decide) ?_
    refine lk_goi (lk_runV (As := [.int 0, .int 1]) (C := R_MO) X h (c_MO_fails l D τ ad _ 0 1 (by decide)) ⟨gc_MO_fails, gm_MO_119, gn_MO, gd_MO_fails, by decide, by decide⟩ gi_MO_fails gs_MO_fails ⟨0, 4, _, _, _, lk_w_get (by decide), rfl⟩ rfl hl.1 (Nat.le_of_ble_eq_true rfl) d_MO_begin_40 ⟨Nat.zero_le _, Nat.zero_le _⟩) h hA (fun r40 σ40 H locs hk9 h => ?_)
    rw [hk9.2, if_pos rfl] at h
    rw [hk9.1]
    refine lv_if_ne (tgt := 60) hx hb d_MO_begin_43 (by decide) (fun z => absurd z (by decide)) (fun _ => ?_)
    refine lv_aload_n hx hb d_MO_begin_46 rfl (lv_at hl 0 rfl) ?_
    refine lv_aload_n hx hb d_MO_begin_47 rfl (lv_at hl 0 rfl) ?_
    refine mo_get X rfl h 14 (by decide) rfl gf_MO_43 rfl d_MO_begin_48 ?_
    refine lv_iload_n hx hb d_MO_begin_51 rfl (lv_at hl 1 rfl) ?_
    refine mo_zald X h 11 (by decide) (j := t) (by omega) d_MO_begin_52 ?_
    refine lk_top 0 ((lk_st_f (by decide)).trans hbu) ?_
    refine lv_iconst (v := 2) hx hb d_MO_begin_53 (by decide) ?_
    refine lk_goi (lk_runV (As := [.int 0, .int 2]) (C := R_MO) X h (c_MO_fails l D τ ad _ 0 2 (by decide)) ⟨gc_MO_fails, gm_MO_119, gn_MO, gd_MO_fails, by decide, by decide⟩ gi_MO_fails gs_MO_fails ⟨0, 4, _, _, _, lk_w_get (by decide), rfl⟩ rfl hl.1 (Nat.le_of_ble_eq_true rfl) d_MO_begin_54 ⟨Nat.zero_le _, Nat.zero_le _⟩) h hA (fun r54 σ54 H locs hk9 h => ?_)
    rw [hk9.2, if_pos rfl] at h
    rw [hk9.1]
    rw [lk_st_st] at h
    refine lv_if_eq (tgt := 61) hx hb d_MO_begin_57 (by decide) (fun _ => ?_) (fun z => absurd z (by decide))
    refine lv_aload_n hx hb d_MO_begin_61 rfl (lv_at hl 0 rfl) ?_
    refine mo_get X rfl h 14 (by decide) rfl gf_MO_43 rfl d_MO_begin_62 ?_
    refine lv_iload_n hx hb d_MO_begin_65 rfl (lv_at hl 1 rfl) ?_
    refine lv_iconst (v := 1) hx hb d_MO_begin_66 (by decide) ?_
    refine mo_zast X h 11 (by decide) (j := t) (v := 1) (by decide) (by omega) d_MO_begin_67 (fun H locs h => ?_)
    refine lv_aload_n hx hb d_MO_begin_68 rfl (lv_at hl 0 rfl) ?_
    refine mo_get X rfl h 15 (by decide) rfl gf_MO_47 rfl d_MO_begin_69 ?_
    refine lv_iload_n hx hb d_MO_begin_72 rfl (lv_at hl 1 rfl) ?_
    refine lv_iload_n hx hb d_MO_begin_73 rfl (lv_at hl 2 rfl) ?_
    refine mo_ast X h 12 4 rfl (by decide) (j := t) (v := o) (by omega) (by decide) d_MO_begin_74 (fun H locs h => ?_)
    refine lv_aload_n hx hb d_MO_begin_75 rfl (lv_at hl 0 rfl) ?_
    refine mo_get X rfl h 18 (by decide) rfl gf_MO_56 rfl d_MO_begin_76 ?_
    refine lv_iload_n hx hb d_MO_begin_79 rfl (lv_at hl 1 rfl) ?_
    refine lv_iload_n hx hb d_MO_begin_80 rfl (lv_at hl 3 rfl) ?_
    refine mo_ast X h 15 4 rfl (by decide) (j := t) (v := k) (by omega) (by decide) d_MO_begin_81 (fun H locs h => ?_)
    refine lv_aload_n hx hb d_MO_begin_82 rfl (lv_at hl 0 rfl) ?_
    refine mo_get X rfl h 19 (by decide) rfl gf_MO_59 rfl d_MO_begin_83 ?_
    refine lv_iload_n hx hb d_MO_begin_86 rfl (lv_at hl 1 rfl) ?_
    refine lv_iconst (v := 0) hx hb d_MO_begin_87 (by decide) ?_
    refine mo_ast X h 16 4 rfl (by decide) (j := t) (v := 0) (by omega) (by decide) d_MO_begin_88 (fun H locs h => ?_)
    refine lv_aload_n hx hb d_MO_begin_89 rfl (lv_at hl 0 rfl) ?_
    refine mo_get X rfl h 20 (by decide) rfl gf_MO_62 rfl d_MO_begin_90 ?_
    refine lv_iload_n hx hb d_MO_begin_93 rfl (lv_at hl 1 rfl) ?_
    refine lv_iload hx hb d_MO_begin_94 (lv_at hl 4 rfl) ?_
    refine mo_ast X h 17 4 rfl (by decide) (j := t) (v := v) (by omega) (by decide) d_MO_begin_96 (fun H locs h => ?_)
    refine lv_aload_n hx hb d_MO_begin_97 rfl (lv_at hl 0 rfl) ?_
    refine mo_get X rfl h 21 (by decide) rfl gf_MO_65 rfl d_MO_begin_98 ?_
    refine lv_iload_n hx hb d_MO_begin_101 rfl (lv_at hl 1 rfl) ?_
    refine lv_iconst (v := (-1)) hx hb d_MO_begin_102 (by decide) ?_
    refine mo_ast X h 18 4 rfl (by decide) (j := t) (v := (-1)) (by omega) (by decide) d_MO_begin_103 (fun H locs h => ?_)
    refine lv_aload_n hx hb d_MO_begin_104 rfl (lv_at hl 0 rfl) ?_
    refine lv_iload_n hx hb d_MO_begin_105 rfl (lv_at hl 1 rfl) ?_
    refine lk_gov (lk_runV (As := [.int (nI t)]) (C := R_MO) X h (c_MO_forgetPath l D τ ad _ t ht) ⟨gc_MO_forgetPath, gm_MO_105, gn_MO, gd_MO_forgetPath, by decide, by decide⟩ gi_MO_forgetPath gs_MO_forgetPath ⟨0, 4, _, _, _, lk_w_get (by decide), rfl⟩ rfl hl.1 (Nat.le_of_ble_eq_true rfl) d_MO_begin_106 ⟨Nat.zero_le _, Nat.zero_le _⟩) h hA (fun σ106 H locs hk9 h => ?_)
    rw [hk9] at h
    refine lv_aload_n hx hb d_MO_begin_109 rfl (lv_at hl 0 rfl) ?_
    refine lv_iload_n hx hb d_MO_begin_110 rfl (lv_at hl 1 rfl) ?_
    refine lv_aload_n hx hb d_MO_begin_111 rfl (lv_at hl 0 rfl) ?_
    refine mo_get X rfl h 11 (by decide) rfl gf_MO_108 rfl d_MO_begin_112 ?_
    refine lk_top (lk_st M 24 2 0 24 0) (rfl) ?_
    refine lk_gov (lk_runV (As := [.int (nI t), .int (lk_st M 24 2 0 24 0)]) (C := R_MO) X h (c_MO_search l D τ ad _ t ht _) ⟨gc_MO_search, gm_MO_111, gn_MO, gd_MO_search, by decide, by decide⟩ gi_MO_search gs_MO_search ⟨0, 4, _, _, _, lk_w_get (by decide), rfl⟩ rfl hl.1 (Nat.le_of_ble_eq_true rfl) d_MO_begin_115 ⟨Nat.zero_le _, Nat.zero_le _⟩) h hA (fun σ115 H locs hk9 h => ?_)
    rw [hk9] at h
    refine lv_iload_n hx hb d_MO_begin_118 rfl (lv_at hl 2 rfl) ?_
    refine lv_iconst (v := 3) hx hb d_MO_begin_119 (by decide) ?_
    refine lv_icmp_ne (tgt := 128) hx hb d_MO_begin_120 (by decide) (fun h5 => ?_) (fun h5 => ?_)
    · exact lk_retv X h d_MO_begin_128 ((if_neg h5).symm)
    · refine lv_aload_n hx hb d_MO_begin_123 rfl (lv_at hl 0 rfl) ?_
      refine lv_iload_n hx hb d_MO_begin_124 rfl (lv_at hl 1 rfl) ?_
      refine lk_gov (lk_runV (As := [.int (nI t)]) (C := R_MO) X h (c_MO_beginJoin l D τ ad _ t nq rt x ht hnq ((show mm_beg0 (lk_st M 24 2 0) t o k v 24 1 = M 24 1 from rfl).trans hq0) hrt ((show mm_beg0 (lk_st M 24 2 0) t o k v 24 0 = M 24 0 from rfl).trans hr0) (fun z => let ⟨z1, z2⟩ := hx0 z; ⟨z1, (show mm_beg0 (lk_st M 24 2 0) t o k v 10 0 = M 10 0 from rfl).trans z2⟩)) ⟨gc_MO_beginJoin, gm_MO_123, gn_MO, gd_MO_beginJoin, by decide, by decide⟩ gi_MO_beginJoin gs_MO_beginJoin ⟨0, 4, _, _, _, lk_w_get (by decide), rfl⟩ rfl hl.1 (Nat.le_of_ble_eq_true rfl) d_MO_begin_125 ⟨Nat.zero_le _, Nat.zero_le _⟩) h hA (fun σ125 H locs hk9 h => ?_)
      rw [hk9] at h
      exact lk_retv X h d_MO_begin_128 ((if_pos h5).symm)
def lk_look (M : lk_M) (t w : Nat) : Int32 := if 4 < w then M 22 (4 * t + w - 5) else if w = 0 then (if M 11 t = 0 then 1 else 0) else if M 11 t = 0 then -1 else if w = 1 then M 13 t else if w = 2 then M 14 t else if w = 3 then M 15 t else M 16 t
set_option maxRecDepth 20000 in
theorem c_MO_look_bad (l : Launch) (D : va_G) (τ : Nat → ClassId) (ad : Nat → Nat) (M : lk_M) (x y : Int32) (hbad : ¬ ((0 ≤ x ∧ x ≤ 3) ∧ (0 ≤ y ∧ y ≤ 8))) : lk_Ci l D τ 25 ad (lk_me τ ad) y_MO_look b_MO_look 3 (.int) 2 43 [.ref (ad 0), .int x, .int y] M (fun r M1 => r = 0 ∧ M1 = lk_st M 24 2 1) := by
  refine lk_openi (by decide +kernel) (Nat.le_of_ble_eq_true rfl) ?_
  intro pg en s m args below meth cd ls A X h hA hl
  obtain ⟨hx, hb, -⟩ := id X
  have hl : lv_has ls 3 [(0, .ref (ad 0)), (1, .int x), (2, .int y)] := hl
  refine lv_aload_n hx hb d_MO_look_0 rfl (lv_at hl 0 rfl) ?_
  refine lv_aload_n hx hb d_MO_look_1 rfl (lv_at hl 0 rfl) ?_
  refine lv_iload_n hx hb d_MO_look_2 rfl (lv_at hl 1 rfl) ?_
  by_cases h1 : 0 ≤ x ∧ x ≤ 3
  · refine lk_goi (lk_runV (As := [.int x]) (C := R_MO) X h (c_MO_isTask l D τ ad M x) ⟨gc_MO_isTask, gm_MO_115, gn_MO, gd_MO_isTask, by decide, by decide⟩ gi_MO_isTask gs_MO_isTask ⟨0, 4, _, _, _, lk_w_get (by decide), rfl⟩ rfl hl.1 (Nat.le_of_ble_eq_true rfl) d_MO_look_3 ⟨Nat.zero_le _, Nat.zero_le _⟩) h hA (fun r3 σ3 H locs hk9 h => ?_)
    rw [hk9.2] at h
    rw [hk9.1, if_pos h1]
    refine lv_if_eq (tgt := 19) hx hb d_MO_look_6 (by decide) (fun z => absurd z (by decide)) (fun _ => ?_)
    refine lv_iload_n hx hb d_MO_look_9 rfl (lv_at hl 2 rfl) ?_
    refine lv_iconst (v := 0) hx hb d_MO_look_10 (by decide) ?_
    refine lv_bipush (v := 8) hx hb d_MO_look_11 (by decide) ?_
    refine lk_goi (lk_runS (As := [.int y, .int 0, .int 8]) X h (c_MO_within l D τ ad M y 0 8) ⟨gc_MO_within, gm_MO_101, gn_MO, gd_MO_within, by decide, by decide⟩ gt_MO_within rfl hl.1 (Nat.le_of_ble_eq_true rfl) d_MO_look_13 ⟨Nat.zero_le _, Nat.zero_le _⟩) h hA (fun r13 σ13 H locs hk9 h => ?_)
    rw [hk9.2] at h
    rw [hk9.1, if_neg (fun z => hbad ⟨h1, z⟩)]
    refine lv_if_ne (tgt := 23) hx hb d_MO_look_16 (by decide) (fun z => absurd z (by decide)) (fun _ => ?_)
    refine lv_iconst (v := 1) hx hb d_MO_look_19 (by decide) ?_
    refine lv_goto (tgt := 24) hx hb d_MO_look_20 (by decide) ?_
    refine lv_iconst (v := 1) hx hb d_MO_look_24 (by decide) ?_
    refine lk_goi (lk_runV (As := [.int 1, .int 1]) (C := R_MO) X h (c_MO_fails l D τ ad _ 1 1 (by decide)) ⟨gc_MO_fails, gm_MO_119, gn_MO, gd_MO_fails, by decide, by decide⟩ gi_MO_fails gs_MO_fails ⟨0, 4, _, _, _, lk_w_get (by decide), rfl⟩ rfl hl.1 (Nat.le_of_ble_eq_true rfl) d_MO_look_25 ⟨Nat.zero_le _, Nat.zero_le _⟩) h hA (fun r25 σ25 H locs hk9 h => ?_)
    rw [hk9.2, if_neg (by decide)] at h
    rw [hk9.1]
    refine lv_if_eq (tgt := 33) hx hb d_MO_look_28 (by decide) (fun z => absurd z (by decide)) (fun _ => ?_)
    refine lv_iconst (v := 0) hx hb d_MO_look_31 (by decide) ?_
    exact lk_reti X h d_MO_look_32 (⟨rfl, rfl⟩)
  · refine lk_goi (lk_runV (As := [.int x]) (C := R_MO) X h (c_MO_isTask l D τ ad M x) ⟨gc_MO_isTask, gm_MO_115, gn_MO, gd_MO_isTask, by decide, by decide⟩ gi_MO_isTask gs_MO_isTask ⟨0, 4, _, _, _, lk_w_get (by decide), rfl⟩ rfl hl.1 (Nat.le_of_ble_eq_true rfl) d_MO_look_3 ⟨Nat.zero_le _, Nat.zero_le _⟩) h hA (fun r3 σ3 H locs hk9 h => ?_)
    rw [hk9.2] at h
    rw [hk9.1, if_neg h1]
    refine lv_if_eq (tgt := 19) hx hb d_MO_look_6 (by decide) (fun _ => ?_) (fun z => absurd z (by decide))
    refine lv_iconst (v := 1) hx hb d_MO_look_19 (by decide) ?_
    refine lv_goto (tgt := 24) hx hb d_MO_look_20 (by decide) ?_
    refine lv_iconst (v := 1) hx hb d_MO_look_24 (by decide) ?_
    refine lk_goi (lk_runV (As := [.int 1, .int 1]) (C := R_MO) X h (c_MO_fails l D τ ad _ 1 1 (by decide)) ⟨gc_MO_fails, gm_MO_119, gn_MO, gd_MO_fails, by decide, by decide⟩ gi_MO_fails gs_MO_fails ⟨0, 4, _, _, _, lk_w_get (by decide), rfl⟩ rfl hl.1 (Nat.le_of_ble_eq_true rfl) d_MO_look_25 ⟨Nat.zero_le _, Nat.zero_le _⟩) h hA (fun r25 σ25 H locs hk9 h => ?_)
    rw [hk9.2, if_neg (by decide)] at h
    rw [hk9.1]
    refine lv_if_eq (tgt := 33) hx hb d_MO_look_28 (by decide) (fun z => absurd z (by decide)) (fun _ => ?_)
    refine lv_iconst (v := 0) hx hb d_MO_look_31 (by decide) ?_
    exact lk_reti X h d_MO_look_32 (⟨rfl, rfl⟩)
set_option maxRecDepth 20000 in
theorem c_MO_look (l : Launch) (D : va_G) (τ : Nat → ClassId) (ad : Nat → Nat) (M : lk_M) (t w : Nat) (ht : t < 4) (hw : w ≤ 8) (hbu : M 11 t = 0 ∨ M 11 t = 1) : lk_Ci l D τ 25 ad (lk_me τ ad) y_MO_look b_MO_look 3 (.int) 2 43 [.ref (ad 0), .int (nI t), .int (nI w)] M (fun r M1 => r = lk_look M t w ∧ M1 = lk_st M 24 2 0) := by
  refine lk_openi (by decide +kernel) (Nat.le_of_ble_eq_true rfl) ?_
  intro pg en s m args below meth cd ls A X h hA hl
  obtain ⟨hx, hb, -⟩ := id X
  have hl : lv_has ls 3 [(0, .ref (ad 0)), (1, .int (nI t)), (2, .int (nI w))] := hl
  have h8 : 0 ≤ nI w ∧ nI w ≤ 8 := ⟨nI_pos' (by omega), nI_le (b := 8) hw (by decide)⟩
  refine lv_aload_n hx hb d_MO_look_0 rfl (lv_at hl 0 rfl) ?_
  refine lv_aload_n hx hb d_MO_look_1 rfl (lv_at hl 0 rfl) ?_
  refine lv_iload_n hx hb d_MO_look_2 rfl (lv_at hl 1 rfl) ?_
  refine lk_goi (lk_runV (As := [.int (nI t)]) (C := R_MO) X h (c_MO_isTask l D τ ad M (nI t)) ⟨gc_MO_isTask, gm_MO_115, gn_MO, gd_MO_isTask, by decide, by decide⟩ gi_MO_isTask gs_MO_isTask ⟨0, 4, _, _, _, lk_w_get (by decide), rfl⟩ rfl hl.1 (Nat.le_of_ble_eq_true rfl) d_MO_look_3 ⟨Nat.zero_le _, Nat.zero_le _⟩) h hA (fun r3 σ3 H locs hk9 h => ?_)
  rw [hk9.2] at h
  rw [hk9.1, if_pos (lk_in4' ht)]
  refine lv_if_eq (tgt := 19) hx hb d_MO_look_6 (by decide) (fun z => absurd z (by decide)) (fun _ => ?_)
  refine lv_iload_n hx hb d_MO_look_9 rfl (lv_at hl 2 rfl) ?_
  refine lv_iconst (v := 0) hx hb d_MO_look_10 (by decide) ?_
  refine lv_bipush (v := 8) hx hb d_MO_look_11 (by decide) ?_
  refine lk_goi (lk_runS (As := [.int (nI w), .int 0, .int 8]) X h (c_MO_within l D τ ad M (nI w) 0 8) ⟨gc_MO_within, gm_MO_101, gn_MO, gd_MO_within, by decide, by decide⟩ gt_MO_within rfl hl.1 (Nat.le_of_ble_eq_true rfl) d_MO_look_13 ⟨Nat.zero_le _, Nat.zero_le _⟩) h hA (fun r13 σ13 H locs hk9 h => ?_)
  rw [hk9.2] at h
  rw [hk9.1, if_pos h8]
  refine lv_if_ne (tgt := 23) hx hb d_MO_look_16 (by decide) (fun _ => ?_) (fun z => absurd z (by decide))
  refine lv_iconst (v := 0) hx hb d_MO_look_23 (by decide) ?_
  refine lv_iconst (v := 1) hx hb d_MO_look_24 (by decide) ?_
  refine lk_goi (lk_runV (As := [.int 0, .int 1]) (C := R_MO) X h (c_MO_fails l D τ ad _ 0 1 (by decide)) ⟨gc_MO_fails, gm_MO_119, gn_MO, gd_MO_fails, by decide, by decide⟩ gi_MO_fails gs_MO_fails ⟨0, 4, _, _, _, lk_w_get (by decide), rfl⟩ rfl hl.1 (Nat.le_of_ble_eq_true rfl) d_MO_look_25 ⟨Nat.zero_le _, Nat.zero_le _⟩) h hA (fun r25 σ25 H locs hk9 h => ?_)
  rw [hk9.2, if_pos rfl] at h
  rw [hk9.1]
  refine lv_if_eq (tgt := 33) hx hb d_MO_look_28 (by decide) (fun _ => ?_) (fun z => absurd z (by decide))
  refine lv_iload_n hx hb d_MO_look_33 rfl (lv_at hl 2 rfl) ?_
  refine lv_iconst (v := nI 4) hx hb d_MO_look_34 (by decide) ?_
  refine lk_cN_le (tgt := 51) hx hb (by omega) (by omega) d_MO_look_35 (by decide) (fun h35 => ?_) (fun h35 => ?_)
  · refine lv_iload_n hx hb d_MO_look_51 rfl (lv_at hl 2 rfl) ?_
    refine lv_if_ne (tgt := 70) hx hb d_MO_look_52 (by decide) (fun h52 => ?_) (fun h52 => ?_)
    · have hw0 : w ≠ 0 := fun z => h52 (by rw [z]; rfl)
      refine lv_aload_n hx hb d_MO_look_70 rfl (lv_at hl 0 rfl) ?_
      refine mo_get X rfl h 14 (by decide) rfl gf_MO_43 rfl d_MO_look_71 ?_
      refine lv_iload_n hx hb d_MO_look_74 rfl (lv_at hl 1 rfl) ?_
      refine mo_zald X h 11 (by decide) (j := t) (by omega) d_MO_look_75 ?_
      refine lk_top (M 11 t) (lk_st_f (by decide)) ?_
      refine lv_if_ne (tgt := 81) hx hb d_MO_look_76 (by decide) (fun h76 => ?_) (fun h76 => ?_)
      · refine lv_iload_n hx hb d_MO_look_81 rfl (lv_at hl 2 rfl) ?_
        refine lv_iconst (v := nI 1) hx hb d_MO_look_82 (by decide) ?_
        refine lk_cN_ne (tgt := 95) hx hb (by omega) (by omega) d_MO_look_83 (by decide) (fun h83 => ?_) (fun h83 => ?_)
        · refine lv_iload_n hx hb d_MO_look_95 rfl (lv_at hl 2 rfl) ?_
          refine lv_iconst (v := nI 2) hx hb d_MO_look_96 (by decide) ?_
          refine lk_cN_ne (tgt := 109) hx hb (by omega) (by omega) d_MO_look_97 (by decide) (fun h97 => ?_) (fun h97 => ?_)
          · refine lv_iload_n hx hb d_MO_look_109 rfl (lv_at hl 2 rfl) ?_
            refine lv_iconst (v := nI 3) hx hb d_MO_look_110 (by decide) ?_
            refine lk_cN_ne (tgt := 123) hx hb (by omega) (by omega) d_MO_look_111 (by decide) (fun h111 => ?_) (fun h111 => ?_)
            · refine lv_aload_n hx hb d_MO_look_123 rfl (lv_at hl 0 rfl) ?_
              refine mo_get X rfl h 19 (by decide) rfl gf_MO_59 rfl d_MO_look_124 ?_
              refine lv_iload_n hx hb d_MO_look_127 rfl (lv_at hl 1 rfl) ?_
              refine mo_ald X h 16 4 rfl (by decide) (j := t) (by omega) (by decide) d_MO_look_128 ?_
              refine lk_top (M 16 t) (lk_st_f (by decide)) ?_
              exact lk_reti X h d_MO_look_129 (by rw [lk_look, if_neg (show ¬ 4 < w by omega), if_neg hw0, if_neg h76, if_neg h83, if_neg h97, if_neg h111]; exact ⟨rfl, rfl⟩)
            · refine lv_aload_n hx hb d_MO_look_114 rfl (lv_at hl 0 rfl) ?_
              refine mo_get X rfl h 18 (by decide) rfl gf_MO_56 rfl d_MO_look_115 ?_
              refine lv_iload_n hx hb d_MO_look_118 rfl (lv_at hl 1 rfl) ?_
              refine mo_ald X h 15 4 rfl (by decide) (j := t) (by omega) (by decide) d_MO_look_119 ?_
              refine lk_top (M 15 t) (lk_st_f (by decide)) ?_
              refine lv_goto (tgt := 129) hx hb d_MO_look_120 (by decide) ?_
              exact lk_reti X h d_MO_look_129 (by rw [lk_look, if_neg (show ¬ 4 < w by omega), if_neg hw0, if_neg h76, if_neg h83, if_neg h97, if_pos h111]; exact ⟨rfl, rfl⟩)
          · refine lv_aload_n hx hb d_MO_look_100 rfl (lv_at hl 0 rfl) ?_
            refine mo_get X rfl h 17 (by decide) rfl gf_MO_53 rfl d_MO_look_101 ?_
            refine lv_iload_n hx hb d_MO_look_104 rfl (lv_at hl 1 rfl) ?_
            refine mo_ald X h 14 4 rfl (by decide) (j := t) (by omega) (by decide) d_MO_look_105 ?_
            refine lk_top (M 14 t) (lk_st_f (by decide)) ?_
            refine lv_goto (tgt := 129) hx hb d_MO_look_106 (by decide) ?_
            exact lk_reti X h d_MO_look_129 (by rw [lk_look, if_neg (show ¬ 4 < w by omega), if_neg hw0, if_neg h76, if_neg h83, if_pos h97]; exact ⟨rfl, rfl⟩)
        · refine lv_aload_n hx hb d_MO_look_86 rfl (lv_at hl 0 rfl) ?_
          refine mo_get X rfl h 16 (by decide) rfl gf_MO_50 rfl d_MO_look_87 ?_
          refine lv_iload_n hx hb d_MO_look_90 rfl (lv_at hl 1 rfl) ?_
          refine mo_ald X h 13 4 rfl (by decide) (j := t) (by omega) (by decide) d_MO_look_91 ?_
          refine lk_top (M 13 t) (lk_st_f (by decide)) ?_
          refine lv_goto (tgt := 129) hx hb d_MO_look_92 (by decide) ?_
          exact lk_reti X h d_MO_look_129 (by rw [lk_look, if_neg (show ¬ 4 < w by omega), if_neg hw0, if_neg h76, if_pos h83]; exact ⟨rfl, rfl⟩)
      · refine lv_iconst (v := (-1)) hx hb d_MO_look_79 (by decide) ?_
        exact lk_reti X h d_MO_look_80 (by rw [lk_look, if_neg (show ¬ 4 < w by omega), if_neg hw0, if_pos h76]; exact ⟨rfl, rfl⟩)
    · have hw0 : w = 0 := (nI_eq (b := 0) (by omega) (by omega)).mp h52
      refine lv_aload_n hx hb d_MO_look_55 rfl (lv_at hl 0 rfl) ?_
      refine mo_get X rfl h 14 (by decide) rfl gf_MO_43 rfl d_MO_look_56 ?_
      refine lv_iload_n hx hb d_MO_look_59 rfl (lv_at hl 1 rfl) ?_
      refine mo_zald X h 11 (by decide) (j := t) (by omega) d_MO_look_60 ?_
      refine lk_top (M 11 t) (lk_st_f (by decide)) ?_
      refine lv_if_eq (tgt := 68) hx hb d_MO_look_61 (by decide) (fun h61 => ?_) (fun h61 => ?_)
      · refine lv_iconst (v := 1) hx hb d_MO_look_68 (by decide) ?_
        exact lk_reti X h d_MO_look_69 (by rw [lk_look, if_neg (show ¬ 4 < w by omega), if_pos hw0, if_pos h61]; exact ⟨rfl, rfl⟩)
      · refine lv_iconst (v := 0) hx hb d_MO_look_64 (by decide) ?_
        refine lv_goto (tgt := 69) hx hb d_MO_look_65 (by decide) ?_
        exact lk_reti X h d_MO_look_69 (by rw [lk_look, if_neg (show ¬ 4 < w by omega), if_pos hw0, if_neg h61]; exact ⟨rfl, rfl⟩)
  · refine lv_aload_n hx hb d_MO_look_38 rfl (lv_at hl 0 rfl) ?_
    refine mo_get X rfl h 25 (by decide) rfl gf_MO_77 rfl d_MO_look_39 ?_
    refine lv_iconst (v := nI 4) hx hb d_MO_look_42 (by decide) ?_
    refine lv_iload_n hx hb d_MO_look_43 rfl (lv_at hl 1 rfl) ?_
    refine lk_imulN hx hb d_MO_look_44 ?_
    refine lv_iload_n hx hb d_MO_look_45 rfl (lv_at hl 2 rfl) ?_
    refine lk_iaddN hx hb d_MO_look_46 ?_
    refine lv_iconst (v := nI 5) hx hb d_MO_look_47 (by decide) ?_
    refine lk_isubN hx hb (by omega) d_MO_look_48 ?_
    refine mo_ald X h 22 16 rfl (by decide) (j := 4 * t + w - 5) (by omega) (by decide) d_MO_look_49 ?_
    refine lk_top (M 22 (4 * t + w - 5)) (lk_st_f (by decide)) ?_
    exact lk_reti X h d_MO_look_50 (by rw [lk_look, if_pos h35]; exact ⟨rfl, rfl⟩)
def lk_page (M : lk_M) (p w : Nat) : Int32 := if w = 0 then M 0 p else if M 0 p = 1 then (if w = 1 then M 1 p else if w = 2 then M 2 p else if w = 3 then M 3 p else if w = 4 then M 4 p else if w = 5 then M 5 p else M 6 p) else -2
set_option maxRecDepth 20000 in
theorem c_MO_page_bad (l : Launch) (D : va_G) (τ : Nat → ClassId) (ad : Nat → Nat) (M : lk_M) (x y : Int32) (hbad : ¬ ((0 ≤ x ∧ x ≤ 23) ∧ (0 ≤ y ∧ y ≤ 6))) : lk_Ci l D τ 25 ad (lk_me τ ad) y_MO_page b_MO_page 3 (.int) 1 22 [.ref (ad 0), .int x, .int y] M (fun r M1 => r = 0 ∧ M1 = lk_st M 24 2 1) := by
  refine lk_openi (by decide +kernel) (Nat.le_of_ble_eq_true rfl) ?_
  intro pg en s m args below meth cd ls A X h hA hl
  obtain ⟨hx, hb, -⟩ := id X
  have hl : lv_has ls 3 [(0, .ref (ad 0)), (1, .int x), (2, .int y)] := hl
  refine lv_aload_n hx hb d_MO_page_0 rfl (lv_at hl 0 rfl) ?_
  refine lv_iload_n hx hb d_MO_page_1 rfl (lv_at hl 1 rfl) ?_
  refine lv_iconst (v := 0) hx hb d_MO_page_2 (by decide) ?_
  refine lv_bipush (v := 23) hx hb d_MO_page_3 (by decide) ?_
  by_cases h1 : 0 ≤ x ∧ x ≤ 23
  · refine lk_goi (lk_runS (As := [.int x, .int 0, .int 23]) X h (c_MO_within l D τ ad M x 0 23) ⟨gc_MO_within, gm_MO_101, gn_MO, gd_MO_within, by decide, by decide⟩ gt_MO_within rfl hl.1 (Nat.le_of_ble_eq_true rfl) d_MO_page_5 ⟨Nat.zero_le _, Nat.zero_le _⟩) h hA (fun r5 σ5 H locs hk9 h => ?_)
    rw [hk9.2] at h
    rw [hk9.1, if_pos h1]
    refine lv_if_eq (tgt := 21) hx hb d_MO_page_8 (by decide) (fun z => absurd z (by decide)) (fun _ => ?_)
    refine lv_iload_n hx hb d_MO_page_11 rfl (lv_at hl 2 rfl) ?_
    refine lv_iconst (v := 0) hx hb d_MO_page_12 (by decide) ?_
    refine lv_bipush (v := 6) hx hb d_MO_page_13 (by decide) ?_
    refine lk_goi (lk_runS (As := [.int y, .int 0, .int 6]) X h (c_MO_within l D τ ad M y 0 6) ⟨gc_MO_within, gm_MO_101, gn_MO, gd_MO_within, by decide, by decide⟩ gt_MO_within rfl hl.1 (Nat.le_of_ble_eq_true rfl) d_MO_page_15 ⟨Nat.zero_le _, Nat.zero_le _⟩) h hA (fun r15 σ15 H locs hk9 h => ?_)
    rw [hk9.2] at h
    rw [hk9.1, if_neg (fun z => hbad ⟨h1, z⟩)]
    refine lv_if_ne (tgt := 25) hx hb d_MO_page_18 (by decide) (fun z => absurd z (by decide)) (fun _ => ?_)
    refine lv_iconst (v := 1) hx hb d_MO_page_21 (by decide) ?_
    refine lv_goto (tgt := 26) hx hb d_MO_page_22 (by decide) ?_
    refine lv_iconst (v := 1) hx hb d_MO_page_26 (by decide) ?_
    refine lk_goi (lk_runV (As := [.int 1, .int 1]) (C := R_MO) X h (c_MO_fails l D τ ad _ 1 1 (by decide)) ⟨gc_MO_fails, gm_MO_119, gn_MO, gd_MO_fails, by decide, by decide⟩ gi_MO_fails gs_MO_fails ⟨0, 4, _, _, _, lk_w_get (by decide), rfl⟩ rfl hl.1 (Nat.le_of_ble_eq_true rfl) d_MO_page_27 ⟨Nat.zero_le _, Nat.zero_le _⟩) h hA (fun r27 σ27 H locs hk9 h => ?_)
    rw [hk9.2, if_neg (by decide)] at h
    rw [hk9.1]
    refine lv_if_eq (tgt := 35) hx hb d_MO_page_30 (by decide) (fun z => absurd z (by decide)) (fun _ => ?_)
    refine lv_iconst (v := 0) hx hb d_MO_page_33 (by decide) ?_
    exact lk_reti X h d_MO_page_34 (⟨rfl, rfl⟩)
  · refine lk_goi (lk_runS (As := [.int x, .int 0, .int 23]) X h (c_MO_within l D τ ad M x 0 23) ⟨gc_MO_within, gm_MO_101, gn_MO, gd_MO_within, by decide, by decide⟩ gt_MO_within rfl hl.1 (Nat.le_of_ble_eq_true rfl) d_MO_page_5 ⟨Nat.zero_le _, Nat.zero_le _⟩) h hA (fun r5 σ5 H locs hk9 h => ?_)
    rw [hk9.2] at h
    rw [hk9.1, if_neg h1]
    refine lv_if_eq (tgt := 21) hx hb d_MO_page_8 (by decide) (fun _ => ?_) (fun z => absurd z (by decide))
    refine lv_iconst (v := 1) hx hb d_MO_page_21 (by decide) ?_
    refine lv_goto (tgt := 26) hx hb d_MO_page_22 (by decide) ?_
    refine lv_iconst (v := 1) hx hb d_MO_page_26 (by decide) ?_
    refine lk_goi (lk_runV (As := [.int 1, .int 1]) (C := R_MO) X h (c_MO_fails l D τ ad _ 1 1 (by decide)) ⟨gc_MO_fails, gm_MO_119, gn_MO, gd_MO_fails, by decide, by decide⟩ gi_MO_fails gs_MO_fails ⟨0, 4, _, _, _, lk_w_get (by decide), rfl⟩ rfl hl.1 (Nat.le_of_ble_eq_true rfl) d_MO_page_27 ⟨Nat.zero_le _, Nat.zero_le _⟩) h hA (fun r27 σ27 H locs hk9 h => ?_)
    rw [hk9.2, if_neg (by decide)] at h
    rw [hk9.1]
    refine lv_if_eq (tgt := 35) hx hb d_MO_page_30 (by decide) (fun z => absurd z (by decide)) (fun _ => ?_)
    refine lv_iconst (v := 0) hx hb d_MO_page_33 (by decide) ?_
    exact lk_reti X h d_MO_page_34 (⟨rfl, rfl⟩)
set_option maxRecDepth 20000 in
theorem c_MO_page (l : Launch) (D : va_G) (τ : Nat → ClassId) (ad : Nat → Nat) (M : lk_M) (p w : Nat) (hp : p < 24) (hw : w ≤ 6) : lk_Ci l D τ 25 ad (lk_me τ ad) y_MO_page b_MO_page 3 (.int) 1 22 [.ref (ad 0), .int (nI p), .int (nI w)] M (fun r M1 => r = lk_page M p w ∧ M1 = lk_st M 24 2 0) := by
  refine lk_openi (by decide +kernel) (Nat.le_of_ble_eq_true rfl) ?_
  intro pg en s m args below meth cd ls A X h hA hl
  obtain ⟨hx, hb, -⟩ := id X
  have hl : lv_has ls 3 [(0, .ref (ad 0)), (1, .int (nI p)), (2, .int (nI w))] := hl
  have h8 : 0 ≤ nI w ∧ nI w ≤ 6 := ⟨nI_pos' (by omega), nI_le (b := 6) hw (by decide)⟩
  refine lv_aload_n hx hb d_MO_page_0 rfl (lv_at hl 0 rfl) ?_
  refine lv_iload_n hx hb d_MO_page_1 rfl (lv_at hl 1 rfl) ?_
  refine lv_iconst (v := 0) hx hb d_MO_page_2 (by decide) ?_
  refine lv_bipush (v := 23) hx hb d_MO_page_3 (by decide) ?_
  refine lk_goi (lk_runS (As := [.int (nI p), .int 0, .int 23]) X h (c_MO_within l D τ ad M (nI p) 0 23) ⟨gc_MO_within, gm_MO_101, gn_MO, gd_MO_within, by decide, by decide⟩ gt_MO_within rfl hl.1 (Nat.le_of_ble_eq_true rfl) d_MO_page_5 ⟨Nat.zero_le _, Nat.zero_le _⟩) h hA (fun r5 σ5 H locs hk9 h => ?_)
  rw [hk9.2] at h
  rw [hk9.1, if_pos (lk_in24' hp)]
  refine lv_if_eq (tgt := 21) hx hb d_MO_page_8 (by decide) (fun z => absurd z (by decide)) (fun _ => ?_)
  refine lv_iload_n hx hb d_MO_page_11 rfl (lv_at hl 2 rfl) ?_
  refine lv_iconst (v := 0) hx hb d_MO_page_12 (by decide) ?_
  refine lv_bipush (v := 6) hx hb d_MO_page_13 (by decide) ?_
  refine lk_goi (lk_runS (As := [.int (nI w), .int 0, .int 6]) X h (c_MO_within l D τ ad M (nI w) 0 6) ⟨gc_MO_within, gm_MO_101, gn_MO, gd_MO_within, by decide, by decide⟩ gt_MO_within rfl hl.1 (Nat.le_of_ble_eq_true rfl) d_MO_page_15 ⟨Nat.zero_le _, Nat.zero_le _⟩) h hA (fun r15 σ15 H locs hk9 h => ?_)
  rw [hk9.2] at h
  rw [hk9.1, if_pos h8]
  refine lv_if_ne (tgt := 25) hx hb d_MO_page_18 (by decide) (fun _ => ?_) (fun z => absurd z (by decide))
  refine lv_iconst (v := 0) hx hb d_MO_page_25 (by decide) ?_
  refine lv_iconst (v := 1) hx hb d_MO_page_26 (by decide) ?_
  refine lk_goi (lk_runV (As := [.int 0, .int 1]) (C := R_MO) X h (c_MO_fails l D τ ad _ 0 1 (by decide)) ⟨gc_MO_fails, gm_MO_119, gn_MO, gd_MO_fails, by decide, by decide⟩ gi_MO_fails gs_MO_fails ⟨0, 4, _, _, _, lk_w_get (by decide), rfl⟩ rfl hl.1 (Nat.le_of_ble_eq_true rfl) d_MO_page_27 ⟨Nat.zero_le _, Nat.zero_le _⟩) h hA (fun r27 σ27 H locs hk9 h => ?_)
  rw [hk9.2, if_pos rfl] at h
  rw [hk9.1]
  refine lv_if_eq (tgt := 35) hx hb d_MO_page_30 (by decide) (fun _ => ?_) (fun z => absurd z (by decide))
  refine lv_iload_n hx hb d_MO_page_35 rfl (lv_at hl 2 rfl) ?_
  refine lv_if_ne (tgt := 46) hx hb d_MO_page_36 (by decide) (fun h36 => ?_) (fun h36 => ?_)
  · have hw0 : w ≠ 0 := fun z => h36 (by rw [z]; rfl)
    refine lv_aload_n hx hb d_MO_page_46 rfl (lv_at hl 0 rfl) ?_
    refine mo_get X rfl h 1 (by decide) rfl gf_MO_7 rfl d_MO_page_47 ?_
    refine lv_iload_n hx hb d_MO_page_50 rfl (lv_at hl 1 rfl) ?_
    refine mo_ald X h 0 24 rfl (by decide) (j := p) (by omega) (by decide) d_MO_page_51 ?_
    refine lk_top (M 0 p) (lk_st_f (by decide)) ?_
    refine lv_iconst (v := 1) hx hb d_MO_page_52 (by decide) ?_
    refine lv_icmp_eq (tgt := 59) hx hb d_MO_page_53 (by decide) (fun h53 => ?_) (fun h53 => ?_)
    · refine lv_iload_n hx hb d_MO_page_59 rfl (lv_at hl 2 rfl) ?_
      obtain rfl | rfl | rfl | rfl | rfl | rfl : w = 1 ∨ w = 2 ∨ w = 3 ∨ w = 4 ∨ w = 5 ∨ w = 6 := by omega
      · refine lv_tableIn (tgt := 96) hx hb d_MO_page_60 (by decide) (by decide) rfl (by decide) ?_
        refine lv_aload_n hx hb d_MO_page_96 rfl (lv_at hl 0 rfl) ?_
        refine mo_get X rfl h 2 (by decide) rfl gf_MO_13 rfl d_MO_page_97 ?_
        refine lv_iload_n hx hb d_MO_page_100 rfl (lv_at hl 1 rfl) ?_
        refine mo_ald X h 1 24 rfl (by decide) (j := p) (by omega) (by decide) d_MO_page_101 ?_
        refine lk_top (M 1 p) (lk_st_f (by decide)) ?_
        exact lk_reti X h d_MO_page_102 (by rw [lk_page, if_neg hw0, if_pos h53]; exact ⟨rfl, rfl⟩)
      · refine lv_tableIn (tgt := 103) hx hb d_MO_page_60 (by decide) (by decide) rfl (by decide) ?_
        refine lv_aload_n hx hb d_MO_page_103 rfl (lv_at hl 0 rfl) ?_
        refine mo_get X rfl h 3 (by decide) rfl gf_MO_16 rfl d_MO_page_104 ?_
        refine lv_iload_n hx hb d_MO_page_107 rfl (lv_at hl 1 rfl) ?_
        refine mo_ald X h 2 24 rfl (by decide) (j := p) (by omega) (by decide) d_MO_page_108 ?_
        refine lk_top (M 2 p) (lk_st_f (by decide)) ?_
        exact lk_reti X h d_MO_page_109 (by rw [lk_page, if_neg hw0, if_pos h53]; exact ⟨rfl, rfl⟩)
      · refine lv_tableIn (tgt := 110) hx hb d_MO_page_60 (by decide) (by decide) rfl (by decide) ?_
        refine lv_aload_n hx hb d_MO_page_110 rfl (lv_at hl 0 rfl) ?_
        refine mo_get X rfl h 4 (by decide) rfl gf_MO_19 rfl d_MO_page_111 ?_
        refine lv_iload_n hx hb d_MO_page_114 rfl (lv_at hl 1 rfl) ?_
        refine mo_ald X h 3 24 rfl (by decide) (j := p) (by omega) (by decide) d_MO_page_115 ?_
        refine lk_top (M 3 p) (lk_st_f (by decide)) ?_
        exact lk_reti X h d_MO_page_116 (by rw [lk_page, if_neg hw0, if_pos h53]; exact ⟨rfl, rfl⟩)
      · refine lv_tableIn (tgt := 117) hx hb d_MO_page_60 (by decide) (by decide) rfl (by decide) ?_
        refine lv_aload_n hx hb d_MO_page_117 rfl (lv_at hl 0 rfl) ?_
        refine mo_get X rfl h 5 (by decide) rfl gf_MO_22 rfl d_MO_page_118 ?_
        refine lv_iload_n hx hb d_MO_page_121 rfl (lv_at hl 1 rfl) ?_
        refine mo_ald X h 4 24 rfl (by decide) (j := p) (by omega) (by decide) d_MO_page_122 ?_
        refine lk_top (M 4 p) (lk_st_f (by decide)) ?_
        exact lk_reti X h d_MO_page_123 (by rw [lk_page, if_neg hw0, if_pos h53]; exact ⟨rfl, rfl⟩)
      · refine lv_tableIn (tgt := 124) hx hb d_MO_page_60 (by decide) (by decide) rfl (by decide) ?_
        refine lv_aload_n hx hb d_MO_page_124 rfl (lv_at hl 0 rfl) ?_
        refine mo_get X rfl h 6 (by decide) rfl gf_MO_25 rfl d_MO_page_125 ?_
        refine lv_iload_n hx hb d_MO_page_128 rfl (lv_at hl 1 rfl) ?_
        refine mo_ald X h 5 24 rfl (by decide) (j := p) (by omega) (by decide) d_MO_page_129 ?_
        refine lk_top (M 5 p) (lk_st_f (by decide)) ?_
        exact lk_reti X h d_MO_page_130 (by rw [lk_page, if_neg hw0, if_pos h53]; exact ⟨rfl, rfl⟩)
      · refine lv_tableOut (tgt := 131) hx hb d_MO_page_60 (by decide) (by decide) ?_
        refine lv_aload_n hx hb d_MO_page_131 rfl (lv_at hl 0 rfl) ?_
        refine mo_get X rfl h 7 (by decide) rfl gf_MO_28 rfl d_MO_page_132 ?_
        refine lv_iload_n hx hb d_MO_page_135 rfl (lv_at hl 1 rfl) ?_
        refine mo_ald X h 6 24 rfl (by decide) (j := p) (by omega) (by decide) d_MO_page_136 ?_
        refine lk_top (M 6 p) (lk_st_f (by decide)) ?_
        exact lk_reti X h d_MO_page_137 (by rw [lk_page, if_neg hw0, if_pos h53]; exact ⟨rfl, rfl⟩)
    · refine lv_bipush (v := (-2)) hx hb d_MO_page_56 (by decide) ?_
      exact lk_reti X h d_MO_page_58 (by rw [lk_page, if_neg hw0, if_neg h53]; exact ⟨rfl, rfl⟩)
  · refine lv_aload_n hx hb d_MO_page_39 rfl (lv_at hl 0 rfl) ?_
    refine mo_get X rfl h 1 (by decide) rfl gf_MO_7 rfl d_MO_page_40 ?_
    refine lv_iload_n hx hb d_MO_page_43 rfl (lv_at hl 1 rfl) ?_
    refine mo_ald X h 0 24 rfl (by decide) (j := p) (by omega) (by decide) d_MO_page_44 ?_
    refine lk_top (M 0 p) (lk_st_f (by decide)) ?_
    exact lk_reti X h d_MO_page_45 (by rw [lk_page, if_pos ((nI_eq (b := 0) (by omega) (by omega)).mp h36)]; exact ⟨rfl, rfl⟩)
theorem lk_in_n {k : Int32} {n : Nat} (hn : n ≤ 5) : (0 ≤ k ∧ k ≤ nI n - 1) ↔ ∃ j : Nat, j < n ∧ k = nI j := by
  have e : (nI n - 1).toInt = (n : Int) - 1 := by
    have := pk_sub_toInt (a := n) (b := 1) (by omega) (by omega)
    exact this
  constructor
  · intro ⟨h1, h2⟩
    rw [Int32.le_iff_toInt_le, e] at h2
    obtain ⟨j, hj, rfl⟩ := nI_of (x := k) (Int32.not_lt.mpr h1)
    rw [nI_toInt hj] at h2
    exact ⟨j, by omega, rfl⟩
  · intro ⟨j, hj, hk⟩
    subst hk
    refine ⟨nI_pos' (by omega), ?_⟩
    rw [Int32.le_iff_toInt_le, e, nI_toInt (by omega)]
    omega
set_option maxRecDepth 20000 in
theorem c_MO_entry_bad (l : Launch) (D : va_G) (τ : Nat → ClassId) (ad : Nat → Nat) (M : lk_M) (x k z : Int32) (hbad : ¬ lk_isn M x) : lk_Ci l D τ 25 ad (lk_me τ ad) y_MO_entry b_MO_entry 4 (.int) 2 43 [.ref (ad 0), .int x, .int k, .int z] M (fun r M1 => r = 0 ∧ M1 = lk_st M 24 2 1) := by
  refine lk_openi (by decide +kernel) (Nat.le_of_ble_eq_true rfl) ?_
  intro pg en s m args below meth cd ls A X h hA hl
  obtain ⟨hx, hb, -⟩ := id X
  have hl : lv_has ls 4 [(0, .ref (ad 0)), (1, .int x), (2, .int k), (3, .int z)] := hl
  refine lv_aload_n hx hb d_MO_entry_0 rfl (lv_at hl 0 rfl) ?_
  refine lv_aload_n hx hb d_MO_entry_1 rfl (lv_at hl 0 rfl) ?_
  refine lv_iload_n hx hb d_MO_entry_2 rfl (lv_at hl 1 rfl) ?_
  refine lk_goi (lk_runV (As := [.int x]) (C := R_MO) X h (c_MO_isNode l D τ ad M x) ⟨gc_MO_isNode, gm_MO_204, gn_MO, gd_MO_isNode, by decide, by decide⟩ gi_MO_isNode gs_MO_isNode ⟨0, 4, _, _, _, lk_w_get (by decide), rfl⟩ rfl hl.1 (Nat.le_of_ble_eq_true rfl) d_MO_entry_3 ⟨Nat.zero_le _, Nat.zero_le _⟩) h hA (fun r3 σ3 H locs hk9 h => ?_)
  obtain ⟨hk9, hm9⟩ := hk9
  rw [hm9] at h
  rw [show r3 = 0 from hk9.elim (fun z => absurd z.2 hbad) (fun z => z.1)]
  refine lv_if_eq (tgt := 37) hx hb d_MO_entry_6 (by decide) (fun _ => ?_) (fun z => absurd z (by decide))
  refine lv_iconst (v := 1) hx hb d_MO_entry_37 (by decide) ?_
  refine lv_goto (tgt := 42) hx hb d_MO_entry_38 (by decide) ?_
  refine lv_iconst (v := 1) hx hb d_MO_entry_42 (by decide) ?_
  refine lk_goi (lk_runV (As := [.int 1, .int 1]) (C := R_MO) X h (c_MO_fails l D τ ad _ 1 1 (by decide)) ⟨gc_MO_fails, gm_MO_119, gn_MO, gd_MO_fails, by decide, by decide⟩ gi_MO_fails gs_MO_fails ⟨0, 4, _, _, _, lk_w_get (by decide), rfl⟩ rfl hl.1 (Nat.le_of_ble_eq_true rfl) d_MO_entry_43 ⟨Nat.zero_le _, Nat.zero_le _⟩) h hA (fun r43 σ43 H locs hk9 h => ?_)
  rw [hk9.2, if_neg (by decide)] at h
  rw [hk9.1]
  refine lv_if_eq (tgt := 51) hx hb d_MO_entry_46 (by decide) (fun z => absurd z (by decide)) (fun _ => ?_)
  refine lv_iconst (v := 0) hx hb d_MO_entry_49 (by decide) ?_
  exact lk_reti X h d_MO_entry_50 (⟨rfl, rfl⟩)
set_option maxRecDepth 20000 in
theorem c_MO_entry_no (l : Launch) (D : va_G) (τ : Nat → ClassId) (ad : Nat → Nat) (M : lk_M) (p n : Nat) (hp : p < 24) (hkd : M 0 p = 1) (hc : M 5 p = nI n) (hn : n ≤ 5) (k z : Int32) (hbad : ¬ ∃ j : Nat, j < n ∧ k = nI j) : lk_Ci l D τ 25 ad (lk_me τ ad) y_MO_entry b_MO_entry 4 (.int) 2 43 [.ref (ad 0), .int (nI p), .int k, .int z] M (fun r M1 => r = 0 ∧ M1 = lk_st M 24 2 1) := by
  refine lk_openi (by decide +kernel) (Nat.le_of_ble_eq_true rfl) ?_
  intro pg en s m args below meth cd ls A X h hA hl
  obtain ⟨hx, hb, -⟩ := id X
  have hl : lv_has ls 4 [(0, .ref (ad 0)), (1, .int (nI p)), (2, .int k), (3, .int z)] := hl
  refine lv_aload_n hx hb d_MO_entry_0 rfl (lv_at hl 0 rfl) ?_
  refine lv_aload_n hx hb d_MO_entry_1 rfl (lv_at hl 0 rfl) ?_
  refine lv_iload_n hx hb d_MO_entry_2 rfl (lv_at hl 1 rfl) ?_
  refine lk_goi (lk_runV (As := [.int (nI p)]) (C := R_MO) X h (c_MO_isNode l D τ ad M (nI p)) ⟨gc_MO_isNode, gm_MO_204, gn_MO, gd_MO_isNode, by decide, by decide⟩ gi_MO_isNode gs_MO_isNode ⟨0, 4, _, _, _, lk_w_get (by decide), rfl⟩ rfl hl.1 (Nat.le_of_ble_eq_true rfl) d_MO_entry_3 ⟨Nat.zero_le _, Nat.zero_le _⟩) h hA (fun r3 σ3 H locs hk9 h => ?_)
  obtain ⟨hk9, hm9⟩ := hk9
  rw [hm9] at h
  rw [show r3 = 1 from hk9.elim (fun z => z.1) (fun z => absurd (show lk_isn M (nI p) from ⟨p, hp, rfl, hkd⟩) z.2)]
  refine lv_if_eq (tgt := 37) hx hb d_MO_entry_6 (by decide) (fun z => absurd z (by decide)) (fun _ => ?_)
  refine lv_iload_n hx hb d_MO_entry_9 rfl (lv_at hl 2 rfl) ?_
  refine lv_iconst (v := 0) hx hb d_MO_entry_10 (by decide) ?_
  refine lv_aload_n hx hb d_MO_entry_11 rfl (lv_at hl 0 rfl) ?_
  refine lv_iload_n hx hb d_MO_entry_12 rfl (lv_at hl 1 rfl) ?_
  refine lk_goi (lk_runV (As := [.int (nI p)]) (C := R_MO) X h (c_MO_isNode l D τ ad M (nI p)) ⟨gc_MO_isNode, gm_MO_204, gn_MO, gd_MO_isNode, by decide, by decide⟩ gi_MO_isNode gs_MO_isNode ⟨0, 4, _, _, _, lk_w_get (by decide), rfl⟩ rfl hl.1 (Nat.le_of_ble_eq_true rfl) d_MO_entry_13 ⟨Nat.zero_le _, Nat.zero_le _⟩) h hA (fun r13 σ13 H locs hk9 h => ?_)
  obtain ⟨hk9, hm9⟩ := hk9
  rw [hm9] at h
  rw [show r13 = 1 from hk9.elim (fun z => z.1) (fun z => absurd (show lk_isn M (nI p) from ⟨p, hp, rfl, hkd⟩) z.2)]
  refine lv_if_eq (tgt := 30) hx hb d_MO_entry_16 (by decide) (fun z => absurd z (by decide)) (fun _ => ?_)
  refine lv_aload_n hx hb d_MO_entry_19 rfl (lv_at hl 0 rfl) ?_
  refine mo_get X rfl h 6 (by decide) rfl gf_MO_25 rfl d_MO_entry_20 ?_
  refine lv_iload_n hx hb d_MO_entry_23 rfl (lv_at hl 1 rfl) ?_
  refine mo_ald X h 5 24 rfl (by decide) (j := p) (by omega) (by decide) d_MO_entry_24 ?_
  refine lk_top (nI n) (hc) ?_
  refine lv_iconst (v := 1) hx hb d_MO_entry_25 (by decide) ?_
  refine lv_isub hx hb d_MO_entry_26 ?_
  refine lv_goto (tgt := 31) hx hb d_MO_entry_27 (by decide) ?_
  refine lk_goi (lk_runS (As := [.int k, .int 0, .int ((nI n) - 1)]) X h (c_MO_within l D τ ad M k 0 (nI n - 1)) ⟨gc_MO_within, gm_MO_101, gn_MO, gd_MO_within, by decide, by decide⟩ gt_MO_within rfl hl.1 (Nat.le_of_ble_eq_true rfl) d_MO_entry_31 ⟨Nat.zero_le _, Nat.zero_le _⟩) h hA (fun r31 σ31 H locs hk9 h => ?_)
  rw [hk9.2] at h
  rw [hk9.1, if_neg (fun z => hbad ((lk_in_n hn).mp z))]
  refine lv_if_ne (tgt := 41) hx hb d_MO_entry_34 (by decide) (fun z => absurd z (by decide)) (fun _ => ?_)
  refine lv_iconst (v := 1) hx hb d_MO_entry_37 (by decide) ?_
  refine lv_goto (tgt := 42) hx hb d_MO_entry_38 (by decide) ?_
  refine lv_iconst (v := 1) hx hb d_MO_entry_42 (by decide) ?_
  refine lk_goi (lk_runV (As := [.int 1, .int 1]) (C := R_MO) X h (c_MO_fails l D τ ad _ 1 1 (by decide)) ⟨gc_MO_fails, gm_MO_119, gn_MO, gd_MO_fails, by decide, by decide⟩ gi_MO_fails gs_MO_fails ⟨0, 4, _, _, _, lk_w_get (by decide), rfl⟩ rfl hl.1 (Nat.le_of_ble_eq_true rfl) d_MO_entry_43 ⟨Nat.zero_le _, Nat.zero_le _⟩) h hA (fun r43 σ43 H locs hk9 h => ?_)
  rw [hk9.2, if_neg (by decide)] at h
  rw [hk9.1]
  refine lv_if_eq (tgt := 51) hx hb d_MO_entry_46 (by decide) (fun z => absurd z (by decide)) (fun _ => ?_)
  refine lv_iconst (v := 0) hx hb d_MO_entry_49 (by decide) ?_
  exact lk_reti X h d_MO_entry_50 (⟨rfl, rfl⟩)
set_option maxRecDepth 20000 in
theorem c_MO_entry (l : Launch) (D : va_G) (τ : Nat → ClassId) (ad : Nat → Nat) (M : lk_M) (p n j : Nat) (hp : p < 24) (hkd : M 0 p = 1) (hc : M 5 p = nI n) (hn : n ≤ 5) (hj : j < n) (z : Int32) : lk_Ci l D τ 25 ad (lk_me τ ad) y_MO_entry b_MO_entry 4 (.int) 2 43 [.ref (ad 0), .int (nI p), .int (nI j), .int z] M (fun r M1 => (r = if z = 0 then M 7 (5 * p + j) else M 8 (5 * p + j)) ∧ M1 = lk_st M 24 2 0) := by
  refine lk_openi (by decide +kernel) (Nat.le_of_ble_eq_true rfl) ?_
  intro pg en s m args below meth cd ls A X h hA hl
  obtain ⟨hx, hb, -⟩ := id X
  have hl : lv_has ls 4 [(0, .ref (ad 0)), (1, .int (nI p)), (2, .int (nI j)), (3, .int z)] := hl
  refine lv_aload_n hx hb d_MO_entry_0 rfl (lv_at hl 0 rfl) ?_
  refine lv_aload_n hx hb d_MO_entry_1 rfl (lv_at hl 0 rfl) ?_
  refine lv_iload_n hx hb d_MO_entry_2 rfl (lv_at hl 1 rfl) ?_
  refine lk_goi (lk_runV (As := [.int (nI p)]) (C := R_MO) X h (c_MO_isNode l D τ ad M (nI p)) ⟨gc_MO_isNode, gm_MO_204, gn_MO, gd_MO_isNode, by decide, by decide⟩ gi_MO_isNode gs_MO_isNode ⟨0, 4, _, _, _, lk_w_get (by decide), rfl⟩ rfl hl.1 (Nat.le_of_ble_eq_true rfl) d_MO_entry_3 ⟨Nat.zero_le _, Nat.zero_le _⟩) h hA (fun r3 σ3 H locs hk9 h => ?_)
  obtain ⟨hk9, hm9⟩ := hk9
  rw [hm9] at h
  rw [show r3 = 1 from hk9.elim (fun z => z.1) (fun z => absurd (show lk_isn M (nI p) from ⟨p, hp, rfl, hkd⟩) z.2)]
  refine lv_if_eq (tgt := 37) hx hb d_MO_entry_6 (by decide) (fun z => absurd z (by decide)) (fun _ => ?_)
  refine lv_iload_n hx hb d_MO_entry_9 rfl (lv_at hl 2 rfl) ?_
  refine lv_iconst (v := 0) hx hb d_MO_entry_10 (by decide) ?_
  refine lv_aload_n hx hb d_MO_entry_11 rfl (lv_at hl 0 rfl) ?_
  refine lv_iload_n hx hb d_MO_entry_12 rfl (lv_at hl 1 rfl) ?_
  refine lk_goi (lk_runV (As := [.int (nI p)]) (C := R_MO) X h (c_MO_isNode l D τ ad M (nI p)) ⟨gc_MO_isNode, gm_MO_204, gn_MO, gd_MO_isNode, by decide, by decide⟩ gi_MO_isNode gs_MO_isNode ⟨0, 4, _, _, _, lk_w_get (by decide), rfl⟩ rfl hl.1 (Nat.le_of_ble_eq_true rfl) d_MO_entry_13 ⟨Nat.zero_le _, Nat.zero_le _⟩) h hA (fun r13 σ13 H locs hk9 h => ?_)
  obtain ⟨hk9, hm9⟩ := hk9
  rw [hm9] at h
  rw [show r13 = 1 from hk9.elim (fun z => z.1) (fun z => absurd (show lk_isn M (nI p) from ⟨p, hp, rfl, hkd⟩) z.2)]
  refine lv_if_eq (tgt := 30) hx hb d_MO_entry_16 (by decide) (fun z => absurd z (by decide)) (fun _ => ?_)
  refine lv_aload_n hx hb d_MO_entry_19 rfl (lv_at hl 0 rfl) ?_
  refine mo_get X rfl h 6 (by decide) rfl gf_MO_25 rfl d_MO_entry_20 ?_
  refine lv_iload_n hx hb d_MO_entry_23 rfl (lv_at hl 1 rfl) ?_
  refine mo_ald X h 5 24 rfl (by decide) (j := p) (by omega) (by decide) d_MO_entry_24 ?_
  refine lk_top (nI n) (hc) ?_
  refine lv_iconst (v := 1) hx hb d_MO_entry_25 (by decide) ?_
  refine lv_isub hx hb d_MO_entry_26 ?_
  refine lv_goto (tgt := 31) hx hb d_MO_entry_27 (by decide) ?_
  refine lk_goi (lk_runS (As := [.int (nI j), .int 0, .int ((nI n) - 1)]) X h (c_MO_within l D τ ad M (nI j) 0 (nI n - 1)) ⟨gc_MO_within, gm_MO_101, gn_MO, gd_MO_within, by decide, by decide⟩ gt_MO_within rfl hl.1 (Nat.le_of_ble_eq_true rfl) d_MO_entry_31 ⟨Nat.zero_le _, Nat.zero_le _⟩) h hA (fun r31 σ31 H locs hk9 h => ?_)
  rw [hk9.2] at h
  rw [hk9.1, if_pos ((lk_in_n hn).mpr ⟨j, hj, rfl⟩)]
  refine lv_if_ne (tgt := 41) hx hb d_MO_entry_34 (by decide) (fun _ => ?_) (fun z => absurd z (by decide))
  refine lv_iconst (v := 0) hx hb d_MO_entry_41 (by decide) ?_
  refine lv_iconst (v := 1) hx hb d_MO_entry_42 (by decide) ?_
  refine lk_goi (lk_runV (As := [.int 0, .int 1]) (C := R_MO) X h (c_MO_fails l D τ ad _ 0 1 (by decide)) ⟨gc_MO_fails, gm_MO_119, gn_MO, gd_MO_fails, by decide, by decide⟩ gi_MO_fails gs_MO_fails ⟨0, 4, _, _, _, lk_w_get (by decide), rfl⟩ rfl hl.1 (Nat.le_of_ble_eq_true rfl) d_MO_entry_43 ⟨Nat.zero_le _, Nat.zero_le _⟩) h hA (fun r43 σ43 H locs hk9 h => ?_)
  rw [hk9.2, if_pos rfl] at h
  rw [hk9.1]
  refine lv_if_eq (tgt := 51) hx hb d_MO_entry_46 (by decide) (fun _ => ?_) (fun z => absurd z (by decide))
  refine lv_iload_n hx hb d_MO_entry_51 rfl (lv_at hl 3 rfl) ?_
  refine lv_if_eq (tgt := 68) hx hb d_MO_entry_52 (by decide) (fun h52 => ?_) (fun h52 => ?_)
  · refine lv_aload_n hx hb d_MO_entry_68 rfl (lv_at hl 0 rfl) ?_
    refine mo_get X rfl h 8 (by decide) rfl gf_MO_31 rfl d_MO_entry_69 ?_
    refine lv_iconst (v := nI 5) hx hb d_MO_entry_72 (by decide) ?_
    refine lv_iload_n hx hb d_MO_entry_73 rfl (lv_at hl 1 rfl) ?_
    refine lk_imulN hx hb d_MO_entry_74 ?_
    refine lv_iload_n hx hb d_MO_entry_75 rfl (lv_at hl 2 rfl) ?_
    refine lk_iaddN hx hb d_MO_entry_76 ?_
    refine mo_ald X h 7 120 rfl (by decide) (j := 5 * p + j) (by omega) (by decide) d_MO_entry_77 ?_
    refine lk_top (M 7 (5 * p + j)) (lk_st_f (by decide)) ?_
    exact lk_reti X h d_MO_entry_78 (⟨(if_pos h52).symm, rfl⟩)
  · refine lv_aload_n hx hb d_MO_entry_55 rfl (lv_at hl 0 rfl) ?_
    refine mo_get X rfl h 9 (by decide) rfl gf_MO_34 rfl d_MO_entry_56 ?_
    refine lv_iconst (v := nI 5) hx hb d_MO_entry_59 (by decide) ?_
    refine lv_iload_n hx hb d_MO_entry_60 rfl (lv_at hl 1 rfl) ?_
    refine lk_imulN hx hb d_MO_entry_61 ?_
    refine lv_iload_n hx hb d_MO_entry_62 rfl (lv_at hl 2 rfl) ?_
    refine lk_iaddN hx hb d_MO_entry_63 ?_
    refine mo_ald X h 8 120 rfl (by decide) (j := 5 * p + j) (by omega) (by decide) d_MO_entry_64 ?_
    refine lk_top (M 8 (5 * p + j)) (lk_st_f (by decide)) ?_
    refine lv_goto (tgt := 78) hx hb d_MO_entry_65 (by decide) ?_
    exact lk_reti X h d_MO_entry_78 (⟨(if_neg h52).symm, rfl⟩)
