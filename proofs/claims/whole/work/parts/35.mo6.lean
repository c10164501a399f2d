theorem lk_del_f {σ : lk_M} {q k n i f : Nat} (h5 : f ≠ 5) (h7 : f ≠ 7) (h8 : f ≠ 8) : lk_del σ q k n f i = σ f i := by
  unfold lk_del
  simp only [lk_up_eq]
  rw [if_neg h5, if_neg h8, if_neg h7]
theorem lk_del_5 {σ : lk_M} {q k n i : Nat} : lk_del σ q k n 5 i = if i = q then nI (n - 1) else σ 5 i := by
  unfold lk_del
  simp only [lk_up_eq, upd]
  simp
noncomputable def mm_removes (M : lk_M) (t p n rt nq : Nat) : Int32 × lk_M :=
  @ite _ (lk_hk M p n (M 15 t)) (Classical.propDecidable _) (2, mm_fin (if n - 1 < 2 ∧ p ≠ rt then lk_cq (lk_del M p (lk_at M p n (M 15 t)) n) (nI p) nq else lk_del M p (lk_at M p n (M 15 t)) n) t (M 8 (5 * p + lk_at M p n (M 15 t)))) (2, mm_fin M t (-1))
set_option maxRecDepth 20000 in
theorem c_MO_removes (l : Launch) (D : va_G) (τ : Nat → ClassId) (ad : Nat → Nat) (M : lk_M) (t p n rt nq : Nat) (ht : t < 4) (hp : p < 24) (hc : M 5 p = nI n) (hn : n ≤ 4) (hrt : rt < 24) (hr0 : M 24 0 = nI rt) (hnq : nq ≤ 12) (hq0 : M 24 1 = nI nq) : lk_Ci l D τ 25 ad (lk_me τ ad) y_MO_removes b_MO_removes 5 (.int) 2 46 [.ref (ad 0), .int (nI t), .int (nI p)] M (fun r M1 => r = (mm_removes M t p n rt nq).1 ∧ M1 = (mm_removes M t p n rt nq).2) := by
  refine lk_openi (by decide +kernel) (Nat.le_of_ble_eq_true rfl) ?_
  intro pg en s m args below meth cd ls A X h hA hl
  obtain ⟨hx, hb, -⟩ := id X
  have hl : lv_has ls 5 [(0, .ref (ad 0)), (1, .int (nI t)), (2, .int (nI p))] := hl
  have hle := lk_at_le M p n (M 15 t)
  refine lv_aload_n hx hb d_MO_removes_0 rfl (lv_at hl 0 rfl) ?_
  refine lv_iload_n hx hb d_MO_removes_1 rfl (lv_at hl 2 rfl) ?_
  refine lv_aload_n hx hb d_MO_removes_2 rfl (lv_at hl 0 rfl) ?_
  refine mo_get X rfl h 18 (by decide) rfl gf_MO_56 rfl d_MO_removes_3 ?_
  refine lv_iload_n hx hb d_MO_removes_6 rfl (lv_at hl 1 rfl) ?_
  refine mo_ald X h 15 4 rfl (by decide) (j := t) (by omega) (by decide) d_MO_removes_7 ?_
  refine lk_goi (lk_runV (As := [.int (nI p), .int (M 15 t)]) (C := R_MO) X h (c_MO_has l D τ ad M p n hp hc (by omega) (M 15 t)) ⟨gc_MO_has, gm_MO_142, gn_MO, gd_MO_has, by decide, by decide⟩ gi_MO_has gs_MO_has ⟨0, 4, _, _, _, lk_w_get (by decide), rfl⟩ rfl hl.1 (Nat.le_of_ble_eq_true rfl) d_MO_removes_8 ⟨Nat.zero_le _, Nat.zero_le _⟩) h hA (fun r8 σ8 H locs hk9 h => ?_)
  obtain ⟨hk9, hm9⟩ := hk9
  rw [hm9] at h
  rcases hk9 with ⟨e9, hT11⟩ | ⟨e9, hT11⟩
  · rw [e9]
    refine lv_if_ne (tgt := 21) hx hb d_MO_removes_11 (by decide) (fun _ => ?_) (fun z => absurd z (by decide))
    have hlt : lk_at M p n (M 15 t) < n := hT11.1
    refine lv_aload_n hx hb d_MO_removes_21 rfl (lv_at hl 0 rfl) ?_
    refine lv_iload_n hx hb d_MO_removes_22 rfl (lv_at hl 2 rfl) ?_
    refine lv_aload_n hx hb d_MO_removes_23 rfl (lv_at hl 0 rfl) ?_
    refine mo_get X rfl h 18 (by decide) rfl gf_MO_56 rfl d_MO_removes_24 ?_
    refine lv_iload_n hx hb d_MO_removes_27 rfl (lv_at hl 1 rfl) ?_
    refine mo_ald X h 15 4 rfl (by decide) (j := t) (by omega) (by decide) d_MO_removes_28 ?_
    refine lk_goi (lk_runV (As := [.int (nI p), .int (M 15 t)]) (C := R_MO) X h (c_MO_from l D τ ad M p n hp hc (by omega) (M 15 t)) ⟨gc_MO_from, gm_MO_87, gn_MO, gd_MO_from, by decide, by decide⟩ gi_MO_from gs_MO_from ⟨0, 4, _, _, _, lk_w_get (by decide), rfl⟩ rfl hl.1 (Nat.le_of_ble_eq_true rfl) d_MO_removes_29 ⟨Nat.zero_le _, Nat.zero_le _⟩) h hA (fun r29 σ29 H locs hk9 h => ?_)
    rw [hk9.2] at h
    rw [hk9.1]
    refine lv_istore_n hx hb d_MO_removes_32 rfl hl (by decide) rfl (fun ls hl => ?_)
    have hl : lv_has ls 5 [(3, .int (nI (lk_at M p n (M 15 t)))), (0, .ref (ad 0)), (1, .int (nI t)), (2, .int (nI p))] := hl
    refine lv_aload_n hx hb d_MO_removes_33 rfl (lv_at hl 1 rfl) ?_
    refine mo_get X rfl h 9 (by decide) rfl gf_MO_34 rfl d_MO_removes_34 ?_
    refine lv_iconst (v := nI 5) hx hb d_MO_removes_37 (by decide) ?_
    refine lv_iload_n hx hb d_MO_removes_38 rfl (lv_at hl 3 rfl) ?_
    refine lk_imulN hx hb d_MO_removes_39 ?_
    refine lv_iload_n hx hb d_MO_removes_40 rfl (lv_at hl 0 rfl) ?_
    refine lk_iaddN hx hb d_MO_removes_41 ?_
    refine mo_ald X h 8 120 rfl (by decide) (j := 5 * p + lk_at M p n (M 15 t)) (by omega) (by decide) d_MO_removes_42 ?_
    refine lv_istore hx hb d_MO_removes_43 hl (by decide) rfl (fun ls hl => ?_)
    have hl : lv_has ls 5 [(4, .int (M 8 (5 * p + lk_at M p n (M 15 t)))), (3, .int (nI (lk_at M p n (M 15 t)))), (0, .ref (ad 0)), (1, .int (nI t)), (2, .int (nI p))] := hl
    refine lv_aload_n hx hb d_MO_removes_45 rfl (lv_at hl 2 rfl) ?_
    refine lv_iload_n hx hb d_MO_removes_46 rfl (lv_at hl 4 rfl) ?_
    refine lv_iload_n hx hb d_MO_removes_47 rfl (lv_at hl 1 rfl) ?_
    refine lk_gov (lk_runV (As := [.int (nI p), .int (nI (lk_at M p n (M 15 t)))]) (C := R_MO) X h (c_MO_takeOut l D τ ad M p (lk_at M p n (M 15 t)) n hp hc hlt (by omega)) ⟨gc_MO_takeOut, gm_MO_186, gn_MO, gd_MO_takeOut, by decide, by decide⟩ gi_MO_takeOut gs_MO_takeOut ⟨0, 4, _, _, _, lk_w_get (by decide), rfl⟩ rfl hl.1 (Nat.le_of_ble_eq_true rfl) d_MO_removes_48 ⟨Nat.zero_le _, Nat.zero_le _⟩) h hA (fun σ48 H locs hk9 h => ?_)
    rw [hk9] at h
    refine lv_aload_n hx hb d_MO_removes_51 rfl (lv_at hl 2 rfl) ?_
    refine mo_get X rfl h 6 (by decide) rfl gf_MO_25 rfl d_MO_removes_52 ?_
    refine lv_iload_n hx hb d_MO_removes_55 rfl (lv_at hl 4 rfl) ?_
    refine mo_ald X h 5 24 rfl (by decide) (j := p) (by omega) (by decide) d_MO_removes_56 ?_
    refine lk_top (nI (n - 1)) (lk_del_5.trans (if_pos rfl)) ?_
    refine lv_iconst (v := nI 2) hx hb d_MO_removes_57 (by decide) ?_
    refine lk_cN_ge (tgt := 74) hx hb (by omega) (by omega) d_MO_removes_58 (by decide) (fun h1 => ?_) (fun h1 => ?_)
    · refine lv_aload_n hx hb d_MO_removes_74 rfl (lv_at hl 2 rfl) ?_
      refine lv_iload_n hx hb d_MO_removes_75 rfl (lv_at hl 3 rfl) ?_
      refine lv_iload hx hb d_MO_removes_76 (lv_at hl 0 rfl) ?_
      refine lk_goi (lk_runV (As := [.int (nI t), .int (M 8 (5 * p + lk_at M p n (M 15 t)))]) (C := R_MO) X h (c_MO_finish l D τ ad _ t ht _) ⟨gc_MO_finish, gm_MO_126, gn_MO, gd_MO_finish, by decide, by decide⟩ gi_MO_finish gs_MO_finish ⟨0, 4, _, _, _, lk_w_get (by decide), rfl⟩ rfl hl.1 (Nat.le_of_ble_eq_true rfl) d_MO_removes_78 ⟨Nat.zero_le _, Nat.zero_le _⟩) h hA (fun r78 σ78 H locs hk9 h => ?_)
      rw [hk9.2] at h
      rw [hk9.1]
      exact lk_reti X h d_MO_removes_81 (by rw [mm_removes, if_pos hT11, if_neg (fun z => absurd z.1 (by omega))]; exact ⟨rfl, rfl⟩)
    · refine lv_iload_n hx hb d_MO_removes_61 rfl (lv_at hl 4 rfl) ?_
      refine lv_aload_n hx hb d_MO_removes_62 rfl (lv_at hl 2 rfl) ?_
      refine mo_get X rfl h 11 (by decide) rfl gf_MO_108 rfl d_MO_removes_63 ?_
      refine lk_top (nI rt) ((lk_del_f (by decide) (by decide) (by decide)).trans hr0) ?_
      refine lk_cN_eq (tgt := 74) hx hb (by omega) (by omega) d_MO_removes_66 (by decide) (fun h2 => ?_) (fun h2 => ?_)
      · refine lv_aload_n hx hb d_MO_removes_74 rfl (lv_at hl 2 rfl) ?_
        refine lv_iload_n hx hb d_MO_removes_75 rfl (lv_at hl 3 rfl) ?_
        refine lv_iload hx hb d_MO_removes_76 (lv_at hl 0 rfl) ?_
        refine lk_goi (lk_runV (As := [.int (nI t), .int (M 8 (5 * p + lk_at M p n (M 15 t)))]) (C := R_MO) X h (c_MO_finish l D τ ad _ t ht _) ⟨gc_MO_finish, gm_MO_126, gn_MO, gd_MO_finish, by decide, by decide⟩ gi_MO_finish gs_MO_finish ⟨0, 4, _, _, _, lk_w_get (by decide), rfl⟩ rfl hl.1 (Nat.le_of_ble_eq_true rfl) d_MO_removes_78 ⟨Nat.zero_le _, Nat.zero_le _⟩) h hA (fun r78 σ78 H locs hk9 h => ?_)
        rw [hk9.2] at h
        rw [hk9.1]
        exact lk_reti X h d_MO_removes_81 (by rw [mm_removes, if_pos hT11, if_neg (fun z => z.2 h2)]; exact ⟨rfl, rfl⟩)
      · refine lv_aload_n hx hb d_MO_removes_69 rfl (lv_at hl 2 rfl) ?_
        refine lv_iload_n hx hb d_MO_removes_70 rfl (lv_at hl 4 rfl) ?_
        refine lk_gov (lk_runV (As := [.int (nI p)]) (C := R_MO) X h (c_MO_comeIntoQueue l D τ ad _ nq ((lk_del_f (by decide) (by decide) (by decide)).trans hq0) hnq (nI p)) ⟨gc_MO_comeIntoQueue, gm_MO_189, gn_MO, gd_MO_comeIntoQueue, by decide, by decide⟩ gi_MO_comeIntoQueue gs_MO_comeIntoQueue ⟨0, 4, _, _, _, lk_w_get (by decide), rfl⟩ rfl hl.1 (Nat.le_of_ble_eq_true rfl) d_MO_removes_71 ⟨Nat.zero_le _, Nat.zero_le _⟩) h hA (fun σ71 H locs hk9 h => ?_)
        rw [hk9] at h
        refine lv_aload_n hx hb d_MO_removes_74 rfl (lv_at hl 2 rfl) ?_
        refine lv_iload_n hx hb d_MO_removes_75 rfl (lv_at hl 3 rfl) ?_
        refine lv_iload hx hb d_MO_removes_76 (lv_at hl 0 rfl) ?_
        refine lk_goi (lk_runV (As := [.int (nI t), .int (M 8 (5 * p + lk_at M p n (M 15 t)))]) (C := R_MO) X h (c_MO_finish l D τ ad _ t ht _) ⟨gc_MO_finish, gm_MO_126, gn_MO, gd_MO_finish, by decide, by decide⟩ gi_MO_finish gs_MO_finish ⟨0, 4, _, _, _, lk_w_get (by decide), rfl⟩ rfl hl.1 (Nat.le_of_ble_eq_true rfl) d_MO_removes_78 ⟨Nat.zero_le _, Nat.zero_le _⟩) h hA (fun r78 σ78 H locs hk9 h => ?_)
        rw [hk9.2] at h
        rw [hk9.1]
        exact lk_reti X h d_MO_removes_81 (by rw [mm_removes, if_pos hT11, if_pos ⟨h1, h2⟩]; exact ⟨rfl, rfl⟩)
  · rw [e9]
    refine lv_if_ne (tgt := 21) hx hb d_MO_removes_11 (by decide) (fun z => absurd z (by decide)) (fun _ => ?_)
    refine lv_aload_n hx hb d_MO_removes_14 rfl (lv_at hl 0 rfl) ?_
    refine lv_iload_n hx hb d_MO_removes_15 rfl (lv_at hl 1 rfl) ?_
    refine lv_iconst (v := (-1)) hx hb d_MO_removes_16 (by decide) ?_
    refine lk_goi (lk_runV (As := [.int (nI t), .int (-1)]) (C := R_MO) X h (c_MO_finish l D τ ad M t ht (-1)) ⟨gc_MO_finish, gm_MO_126, gn_MO, gd_MO_finish, by decide, by decide⟩ gi_MO_finish gs_MO_finish ⟨0, 4, _, _, _, lk_w_get (by decide), rfl⟩ rfl hl.1 (Nat.le_of_ble_eq_true rfl) d_MO_removes_17 ⟨Nat.zero_le _, Nat.zero_le _⟩) h hA (fun r17 σ17 H locs hk9 h => ?_)
    rw [hk9.2] at h
    rw [hk9.1]
    exact lk_reti X h d_MO_removes_20 (by rw [mm_removes, if_neg hT11]; exact ⟨rfl, rfl⟩)
noncomputable def mm_shrinks (M : lk_M) (t p rt nq : Nat) : lk_M :=
  if p = rt ∧ M 4 p = -1 then mm_die (lk_st M 24 0 (M 8 (5 * p))) p t nq else lk_cq M (nI p) nq
set_option maxRecDepth 20000 in
theorem c_MO_shrinks (l : Launch) (D : va_G) (τ : Nat → ClassId) (ad : Nat → Nat) (M : lk_M) (t p rt nq : Nat) (ht : t < 4) (hp : p < 24) (hrt : rt < 24) (hr0 : M 24 0 = nI rt) (hnq : nq ≤ 12) (hq0 : M 24 1 = nI nq) : lk_Cv l D τ 25 ad (lk_me τ ad) y_MO_shrinks b_MO_shrinks 3 2 46 [.ref (ad 0), .int (nI t), .int (nI p)] M (fun M1 => M1 = mm_shrinks M t p rt nq) := by
  refine lk_openv (by decide +kernel) (Nat.le_of_ble_eq_true rfl) ?_
  intro pg en s m args below meth cd ls A X h hA hl
  obtain ⟨hx, hb, -⟩ := id X
  have hl : lv_has ls 3 [(0, .ref (ad 0)), (1, .int (nI t)), (2, .int (nI p))] := hl
  refine lv_iload_n hx hb d_MO_shrinks_0 rfl (lv_at hl 2 rfl) ?_
  refine lv_aload_n hx hb d_MO_shrinks_1 rfl (lv_at hl 0 rfl) ?_
  refine mo_get X rfl h 11 (by decide) rfl gf_MO_108 rfl d_MO_shrinks_2 ?_
  refine lk_top (nI rt) (hr0) ?_
  refine lk_cN_ne (tgt := 18) hx hb (by omega) (by omega) d_MO_shrinks_5 (by decide) (fun h1 => ?_) (fun h1 => ?_)
  · refine lv_aload_n hx hb d_MO_shrinks_18 rfl (lv_at hl 0 rfl) ?_
    refine lv_iload_n hx hb d_MO_shrinks_19 rfl (lv_at hl 2 rfl) ?_
    refine lk_gov (lk_runV (As := [.int (nI p)]) (C := R_MO) X h (c_MO_comeIntoQueue l D τ ad M nq hq0 hnq (nI p)) ⟨gc_MO_comeIntoQueue, gm_MO_189, gn_MO, gd_MO_comeIntoQueue, by decide, by decide⟩ gi_MO_comeIntoQueue gs_MO_comeIntoQueue ⟨0, 4, _, _, _, lk_w_get (by decide), rfl⟩ rfl hl.1 (Nat.le_of_ble_eq_true rfl) d_MO_shrinks_20 ⟨Nat.zero_le _, Nat.zero_le _⟩) h hA (fun σ20 H locs hk9 h => ?_)
    rw [hk9] at h
    exact lk_retv X h d_MO_shrinks_23 (by rw [mm_shrinks, if_neg (fun z => h1 z.1)])
  · refine lv_aload_n hx hb d_MO_shrinks_8 rfl (lv_at hl 0 rfl) ?_
    refine mo_get X rfl h 5 (by decide) rfl gf_MO_22 rfl d_MO_shrinks_9 ?_
    refine lv_iload_n hx hb d_MO_shrinks_12 rfl (lv_at hl 2 rfl) ?_
    refine mo_ald X h 4 24 rfl (by decide) (j := p) (by omega) (by decide) d_MO_shrinks_13 ?_
    refine lv_iconst (v := (-1)) hx hb d_MO_shrinks_14 (by decide) ?_
    refine lv_icmp_eq (tgt := 24) hx hb d_MO_shrinks_15 (by decide) (fun h2 => ?_) (fun h2 => ?_)
    · refine lv_aload_n hx hb d_MO_shrinks_24 rfl (lv_at hl 0 rfl) ?_
      refine lv_aload_n hx hb d_MO_shrinks_25 rfl (lv_at hl 0 rfl) ?_
      refine mo_get X rfl h 9 (by decide) rfl gf_MO_34 rfl d_MO_shrinks_26 ?_
      refine lv_iconst (v := nI 5) hx hb d_MO_shrinks_29 (by decide) ?_
      refine lv_iload_n hx hb d_MO_shrinks_30 rfl (lv_at hl 2 rfl) ?_
      refine lk_imulN hx hb d_MO_shrinks_31 ?_
      refine mo_ald X h 8 120 rfl (by decide) (j := 5 * p) (by omega) (by decide) d_MO_shrinks_32 ?_
      refine mo_put X rfl h 11 0 (by decide) gf_MO_108 d_MO_shrinks_33 (fun H locs h => ?_)
      refine lv_aload_n hx hb d_MO_shrinks_36 rfl (lv_at hl 0 rfl) ?_
      refine lv_iload_n hx hb d_MO_shrinks_37 rfl (lv_at hl 2 rfl) ?_
      refine lv_iload_n hx hb d_MO_shrinks_38 rfl (lv_at hl 1 rfl) ?_
      refine lk_gov (lk_runV (As := [.int (nI p), .int (nI t)]) (C := R_MO) X h (c_MO_die l D τ ad _ p t nq hp ht ((lk_st_p (by decide)).trans hq0) hnq) ⟨gc_MO_die, gm_MO_198, gn_MO, gd_MO_die, by decide, by decide⟩ gi_MO_die gs_MO_die ⟨0, 4, _, _, _, lk_w_get (by decide), rfl⟩ rfl hl.1 (Nat.le_of_ble_eq_true rfl) d_MO_shrinks_39 ⟨Nat.zero_le _, Nat.zero_le _⟩) h hA (fun σ39 H locs hk9 h => ?_)
      rw [hk9] at h
      exact lk_retv X h d_MO_shrinks_42 (by rw [mm_shrinks, if_pos ⟨h1, h2⟩])
    · refine lv_aload_n hx hb d_MO_shrinks_18 rfl (lv_at hl 0 rfl) ?_
      refine lv_iload_n hx hb d_MO_shrinks_19 rfl (lv_at hl 2 rfl) ?_
      refine lk_gov (lk_runV (As := [.int (nI p)]) (C := R_MO) X h (c_MO_comeIntoQueue l D τ ad M nq hq0 hnq (nI p)) ⟨gc_MO_comeIntoQueue, gm_MO_189, gn_MO, gd_MO_comeIntoQueue, by decide, by decide⟩ gi_MO_comeIntoQueue gs_MO_comeIntoQueue ⟨0, 4, _, _, _, lk_w_get (by decide), rfl⟩ rfl hl.1 (Nat.le_of_ble_eq_true rfl) d_MO_shrinks_20 ⟨Nat.zero_le _, Nat.zero_le _⟩) h hA (fun σ20 H locs hk9 h => ?_)
      rw [hk9] at h
      exact lk_retv X h d_MO_shrinks_23 (by rw [mm_shrinks, if_neg (fun z => h2 z.2)])
noncomputable def mm_searches (M : lk_M) (t p n v rt : Nat) : Int32 × lk_M :=
  if M 12 t = 3 ∧ M 18 t = -1 then (2, mm_fin M t 0) else @ite _ (lk_lost M t p) (Classical.propDecidable _) (0, lk_rst M t) (if M 3 p < M 15 t then (0, lk_rgt M t p) else if M 16 t < M 1 p then (0, lk_st (lk_st M 19 (32 * t + v) (nI p)) 14 t (M 8 (5 * p + lk_at M p n (M 15 t)))) else if M 1 p < M 16 t then mm_rises M t rt else if M 12 t = 0 then (2, mm_fin M t (@ite _ (lk_hk M p n (M 15 t)) (Classical.propDecidable _) (M 8 (5 * p + lk_at M p n (M 15 t))) (-1))) else (0, lk_st M 13 t 1))
set_option maxRecDepth 20000 in
theorem c_MO_searches (l : Launch) (D : va_G) (τ : Nat → ClassId) (ad : Nat → Nat) (M : lk_M) (t p n v rt : Nat) (ht : t < 4) (hp : p < 24) (hpl : M 14 t = nI p) (hrt : rt < 24) (hr0 : M 24 0 = nI rt) (hok : ¬ lk_lost M t p → M 5 p = nI n ∧ n ≤ 4 ∧ M 1 p = nI v ∧ v ≤ 23) : lk_Ci l D τ 25 ad (lk_me τ ad) y_MO_searches b_MO_searches 3 (.int) 3 66 [.ref (ad 0), .int (nI t)] M (fun r M1 => r = (mm_searches M t p n v rt).1 ∧ M1 = (mm_searches M t p n v rt).2) := by
  refine lk_openi (by decide +kernel) (Nat.le_of_ble_eq_true rfl) ?_
  intro pg en s m args below meth cd ls A X h hA hl
  obtain ⟨hx, hb, -⟩ := id X
  have hl : lv_has ls 3 [(0, .ref (ad 0)), (1, .int (nI t))] := hl
  refine lv_aload_n hx hb d_MO_searches_0 rfl (lv_at hl 0 rfl) ?_
  refine mo_get X rfl h 17 (by decide) rfl gf_MO_53 rfl d_MO_searches_1 ?_
  refine lv_iload_n hx hb d_MO_searches_4 rfl (lv_at hl 1 rfl) ?_
  refine mo_ald X h 14 4 rfl (by decide) (j := t) (by omega) (by decide) d_MO_searches_5 ?_
  refine lk_top (nI p) (hpl) ?_
  refine lv_istore_n hx hb d_MO_searches_6 rfl hl (by decide) rfl (fun ls hl => ?_)
  have hl : lv_has ls 3 [(2, .int (nI p)), (0, .ref (ad 0)), (1, .int (nI t))] := hl
  refine lv_aload_n hx hb d_MO_searches_7 rfl (lv_at hl 1 rfl) ?_
  refine mo_get X rfl h 15 (by decide) rfl gf_MO_47 rfl d_MO_searches_8 ?_
  refine lv_iload_n hx hb d_MO_searches_11 rfl (lv_at hl 2 rfl) ?_
  refine mo_ald X h 12 4 rfl (by decide) (j := t) (by omega) (by decide) d_MO_searches_12 ?_
  refine lv_iconst (v := 3) hx hb d_MO_searches_13 (by decide) ?_
  refine lv_icmp_ne (tgt := 34) hx hb d_MO_searches_14 (by decide) (fun h14 => ?_) (fun h14 => ?_)
  · refine lv_aload_n hx hb d_MO_searches_34 rfl (lv_at hl 1 rfl) ?_
    refine lv_iload_n hx hb d_MO_searches_35 rfl (lv_at hl 2 rfl) ?_
    refine lk_goi (lk_runV (As := [.int (nI t)]) (C := R_MO) X h (c_MO_isLost l D τ ad M t p ht hp hpl) ⟨gc_MO_isLost, gm_MO_129, gn_MO, gd_MO_isLost, by decide, by decide⟩ gi_MO_isLost gs_MO_isLost ⟨0, 4, _, _, _, lk_w_get (by decide), rfl⟩ rfl hl.1 (Nat.le_of_ble_eq_true rfl) d_MO_searches_36 ⟨Nat.zero_le _, Nat.zero_le _⟩) h hA (fun r36 σ36 H locs hk9 h => ?_)
    obtain ⟨hk9, hm9⟩ := hk9
    rw [hm9] at h
    rcases hk9 with ⟨e9, hT39⟩ | ⟨e9, hT39⟩
    · rw [e9]
      refine lv_if_eq (tgt := 48) hx hb d_MO_searches_39 (by decide) (fun z => absurd z (by decide)) (fun _ => ?_)
      refine lv_aload_n hx hb d_MO_searches_42 rfl (lv_at hl 1 rfl) ?_
      refine lv_iload_n hx hb d_MO_searches_43 rfl (lv_at hl 2 rfl) ?_
      refine lk_goi (lk_runV (As := [.int (nI t)]) (C := R_MO) X h (c_MO_restart l D τ ad M t ht) ⟨gc_MO_restart, gm_MO_132, gn_MO, gd_MO_restart, by decide, by decide⟩ gi_MO_restart gs_MO_restart ⟨0, 4, _, _, _, lk_w_get (by decide), rfl⟩ rfl hl.1 (Nat.le_of_ble_eq_true rfl) d_MO_searches_44 ⟨Nat.zero_le _, Nat.zero_le _⟩) h hA (fun r44 σ44 H locs hk9 h => ?_)
      rw [hk9.2] at h
      rw [hk9.1]
      exact lk_reti X h d_MO_searches_47 (by rw [mm_searches, if_neg (fun z => h14 z.1), if_pos hT39]; exact ⟨rfl, rfl⟩)
    · rw [e9]
      refine lv_if_eq (tgt := 48) hx hb d_MO_searches_39 (by decide) (fun _ => ?_) (fun z => absurd z (by decide))
      obtain ⟨hc, hn, hl1, hv⟩ := hok hT39
      refine lv_aload_n hx hb d_MO_searches_48 rfl (lv_at hl 1 rfl) ?_
      refine mo_get X rfl h 4 (by decide) rfl gf_MO_19 rfl d_MO_searches_49 ?_
      refine lv_iload_n hx hb d_MO_searches_52 rfl (lv_at hl 0 rfl) ?_
      refine mo_ald X h 3 24 rfl (by decide) (j := p) (by omega) (by decide) d_MO_searches_53 ?_
      refine lv_aload_n hx hb d_MO_searches_54 rfl (lv_at hl 1 rfl) ?_
      refine mo_get X rfl h 18 (by decide) rfl gf_MO_56 rfl d_MO_searches_55 ?_
      refine lv_iload_n hx hb d_MO_searches_58 rfl (lv_at hl 2 rfl) ?_
      refine mo_ald X h 15 4 rfl (by decide) (j := t) (by omega) (by decide) d_MO_searches_59 ?_
      refine lv_icmp_ge (tgt := 71) hx hb d_MO_searches_60 (by decide) (fun h60 => ?_) (fun h60 => ?_)
      · refine lv_aload_n hx hb d_MO_searches_71 rfl (lv_at hl 1 rfl) ?_
        refine mo_get X rfl h 2 (by decide) rfl gf_MO_13 rfl d_MO_searches_72 ?_
        refine lv_iload_n hx hb d_MO_searches_75 rfl (lv_at hl 0 rfl) ?_
        refine mo_ald X h 1 24 rfl (by decide) (j := p) (by omega) (by decide) d_MO_searches_76 ?_
        refine lv_aload_n hx hb d_MO_searches_77 rfl (lv_at hl 1 rfl) ?_
        refine mo_get X rfl h 19 (by decide) rfl gf_MO_59 rfl d_MO_searches_78 ?_
        refine lv_iload_n hx hb d_MO_searches_81 rfl (lv_at hl 2 rfl) ?_
        refine mo_ald X h 16 4 rfl (by decide) (j := t) (by omega) (by decide) d_MO_searches_82 ?_
        refine lv_icmp_le (tgt := 132) hx hb d_MO_searches_83 (by decide) (fun h83 => ?_) (fun h83 => ?_)
        · refine lv_aload_n hx hb d_MO_searches_132 rfl (lv_at hl 1 rfl) ?_
          refine mo_get X rfl h 2 (by decide) rfl gf_MO_13 rfl d_MO_searches_133 ?_
          refine lv_iload_n hx hb d_MO_searches_136 rfl (lv_at hl 0 rfl) ?_
          refine mo_ald X h 1 24 rfl (by decide) (j := p) (by omega) (by decide) d_MO_searches_137 ?_
          refine lv_aload_n hx hb d_MO_searches_138 rfl (lv_at hl 1 rfl) ?_
          refine mo_get X rfl h 19 (by decide) rfl gf_MO_59 rfl d_MO_searches_139 ?_
          refine lv_iload_n hx hb d_MO_searches_142 rfl (lv_at hl 2 rfl) ?_
          refine mo_ald X h 16 4 rfl (by decide) (j := t) (by omega) (by decide) d_MO_searches_143 ?_
          refine lv_icmp_ge (tgt := 153) hx hb d_MO_searches_144 (by decide) (fun h144 => ?_) (fun h144 => ?_)
          · refine lv_aload_n hx hb d_MO_searches_153 rfl (lv_at hl 1 rfl) ?_
            refine mo_get X rfl h 15 (by decide) rfl gf_MO_47 rfl d_MO_searches_154 ?_
            refine lv_iload_n hx hb d_MO_searches_157 rfl (lv_at hl 2 rfl) ?_
            refine mo_ald X h 12 4 rfl (by decide) (j := t) (by omega) (by decide) d_MO_searches_158 ?_
            refine lv_if_ne (tgt := 206) hx hb d_MO_searches_159 (by decide) (fun h159 => ?_) (fun h159 => ?_)
            · refine lv_aload_n hx hb d_MO_searches_206 rfl (lv_at hl 1 rfl) ?_
              refine mo_get X rfl h 16 (by decide) rfl gf_MO_50 rfl d_MO_searches_207 ?_
              refine lv_iload_n hx hb d_MO_searches_210 rfl (lv_at hl 2 rfl) ?_
              refine lv_iconst (v := 1) hx hb d_MO_searches_211 (by decide) ?_
              refine mo_ast X h 13 4 rfl (by decide) (j := t) (v := 1) (by omega) (by decide) d_MO_searches_212 (fun H locs h => ?_)
              refine lv_iconst (v := 0) hx hb d_MO_searches_213 (by decide) ?_
              exact lk_reti X h d_MO_searches_214 (by rw [mm_searches, if_neg (fun z => h14 z.1), if_neg hT39, if_neg (Int32.not_lt.mpr h60), if_neg (Int32.not_lt.mpr h83), if_neg (Int32.not_lt.mpr h144), if_neg h159]; exact ⟨rfl, rfl⟩)
            · have hle := lk_at_le M p n (M 15 t)
              refine lv_aload_n hx hb d_MO_searches_162 rfl (lv_at hl 1 rfl) ?_
              refine lv_iload_n hx hb d_MO_searches_163 rfl (lv_at hl 2 rfl) ?_
              refine lv_aload_n hx hb d_MO_searches_164 rfl (lv_at hl 1 rfl) ?_
              refine lv_iload_n hx hb d_MO_searches_165 rfl (lv_at hl 0 rfl) ?_
              refine lv_aload_n hx hb d_MO_searches_166 rfl (lv_at hl 1 rfl) ?_
              refine mo_get X rfl h 18 (by decide) rfl gf_MO_56 rfl d_MO_searches_167 ?_
              refine lv_iload_n hx hb d_MO_searches_170 rfl (lv_at hl 2 rfl) ?_
              refine mo_ald X h 15 4 rfl (by decide) (j := t) (by omega) (by decide) d_MO_searches_171 ?_
              refine lk_goi (lk_runV (As := [.int (nI p), .int (M 15 t)]) (C := R_MO) X h (c_MO_has l D τ ad M p n hp hc (by omega) (M 15 t)) ⟨gc_MO_has, gm_MO_142, gn_MO, gd_MO_has, by decide, by decide⟩ gi_MO_has gs_MO_has ⟨0, 4, _, _, _, lk_w_get (by decide), rfl⟩ rfl hl.1 (Nat.le_of_ble_eq_true rfl) d_MO_searches_172 ⟨Nat.zero_le _, Nat.zero_le _⟩) h hA (fun r172 σ172 H locs hk9 h => ?_)
              obtain ⟨hk9, hm9⟩ := hk9
              rw [hm9] at h
              rcases hk9 with ⟨e9, hT175⟩ | ⟨e9, hT175⟩
              · rw [e9]
                refine lv_if_eq (tgt := 201) hx hb d_MO_searches_175 (by decide) (fun z => absurd z (by decide)) (fun _ => ?_)
                refine lv_aload_n hx hb d_MO_searches_178 rfl (lv_at hl 1 rfl) ?_
                refine mo_get X rfl h 9 (by decide) rfl gf_MO_34 rfl d_MO_searches_179 ?_
                refine lv_iconst (v := nI 5) hx hb d_MO_searches_182 (by decide) ?_
                refine lv_iload_n hx hb d_MO_searches_183 rfl (lv_at hl 0 rfl) ?_
                refine lk_imulN hx hb d_MO_searches_184 ?_
                refine lv_aload_n hx hb d_MO_searches_185 rfl (lv_at hl 1 rfl) ?_
                refine lv_iload_n hx hb d_MO_searches_186 rfl (lv_at hl 0 rfl) ?_
                refine lv_aload_n hx hb d_MO_searches_187 rfl (lv_at hl 1 rfl) ?_
                refine mo_get X rfl h 18 (by decide) rfl gf_MO_56 rfl d_MO_searches_188 ?_
                refine lv_iload_n hx hb d_MO_searches_191 rfl (lv_at hl 2 rfl) ?_
                refine mo_ald X h 15 4 rfl (by decide) (j := t) (by omega) (by decide) d_MO_searches_192 ?_
                refine lk_goi (lk_runV (As := [.int (nI p), .int (M 15 t)]) (C := R_MO) X h (c_MO_from l D τ ad M p n hp hc (by omega) (M 15 t)) ⟨gc_MO_from, gm_MO_87, gn_MO, gd_MO_from, by decide, by decide⟩ gi_MO_from gs_MO_from ⟨0, 4, _, _, _, lk_w_get (by decide), rfl⟩ rfl hl.1 (Nat.le_of_ble_eq_true rfl) d_MO_searches_193 ⟨Nat.zero_le _, Nat.zero_le _⟩) h hA (fun r193 σ193 H locs hk9 h => ?_)
                rw [hk9.2] at h
                rw [hk9.1]
                refine lk_iaddN hx hb d_MO_searches_196 ?_
                refine mo_ald X h 8 120 rfl (by decide) (j := 5 * p + lk_at M p n (M 15 t)) (by omega) (by decide) d_MO_searches_197 ?_
                refine lv_goto (tgt := 202) hx hb d_MO_searches_198 (by decide) ?_
                refine lk_goi (lk_runV (As := [.int (nI t), .int (M 8 (5 * p + lk_at M p n (M 15 t)))]) (C := R_MO) X h (c_MO_finish l D τ ad _ t ht _) ⟨gc_MO_finish, gm_MO_126, gn_MO, gd_MO_finish, by decide, by decide⟩ gi_MO_finish gs_MO_finish ⟨0, 4, _, _, _, lk_w_get (by decide), rfl⟩ rfl hl.1 (Nat.le_of_ble_eq_true rfl) d_MO_searches_202 ⟨Nat.zero_le _, Nat.zero_le _⟩) h hA (fun r202 σ202 H locs hk9 h => ?_)
                rw [hk9.2] at h
                rw [hk9.1]
                exact lk_reti X h d_MO_searches_205 (by rw [mm_searches, if_neg (fun z => h14 z.1), if_neg hT39, if_neg (Int32.not_lt.mpr h60), if_neg (Int32.not_lt.mpr h83), if_neg (Int32.not_lt.mpr h144), if_pos h159, if_pos hT175]; exact ⟨rfl, rfl⟩)
              · rw [e9]
                refine lv_if_eq (tgt := 201) hx hb d_MO_searches_175 (by decide) (fun _ => ?_) (fun z => absurd z (by decide))
                refine lv_iconst (v := (-1)) hx hb d_MO_searches_201 (by decide) ?_
                refine lk_goi (lk_runV (As := [.int (nI t), .int (-1)]) (C := R_MO) X h (c_MO_finish l D τ ad _ t ht (-1)) ⟨gc_MO_finish, gm_MO_126, gn_MO, gd_MO_finish, by decide, by decide⟩ gi_MO_finish gs_MO_finish ⟨0, 4, _, _, _, lk_w_get (by decide), rfl⟩ rfl hl.1 (Nat.le_of_ble_eq_true rfl) d_MO_searches_202 ⟨Nat.zero_le _, Nat.zero_le _⟩) h hA (fun r202 σ202 H locs hk9 h => ?_)
                rw [hk9.2] at h
                rw [hk9.1]
                exact lk_reti X h d_MO_searches_205 (by rw [mm_searches, if_neg (fun z => h14 z.1), if_neg hT39, if_neg (Int32.not_lt.mpr h60), if_neg (Int32.not_lt.mpr h83), if_neg (Int32.not_lt.mpr h144), if_pos h159, if_neg hT175]; exact ⟨rfl, rfl⟩)
          · refine lv_aload_n hx hb d_MO_searches_147 rfl (lv_at hl 1 rfl) ?_
            refine lv_iload_n hx hb d_MO_searches_148 rfl (lv_at hl 2 rfl) ?_
            refine lk_goi (lk_runV (As := [.int (nI t)]) (C := R_MO) X h (c_MO_rises l D τ ad M t rt ht hrt hr0) ⟨gc_MO_rises, gm_MO_139, gn_MO, gd_MO_rises, by decide, by decide⟩ gi_MO_rises gs_MO_rises ⟨0, 4, _, _, _, lk_w_get (by decide), rfl⟩ rfl hl.1 (Nat.le_of_ble_eq_true rfl) d_MO_searches_149 ⟨Nat.zero_le _, Nat.zero_le _⟩) h hA (fun r149 σ149 H locs hk9 h => ?_)
            rw [hk9.2] at h
            rw [hk9.1]
            exact lk_reti X h d_MO_searches_152 (by rw [mm_searches, if_neg (fun z => h14 z.1), if_neg hT39, if_neg (Int32.not_lt.mpr h60), if_neg (Int32.not_lt.mpr h83), if_pos (Int32.not_le.mp h144)]; exact ⟨rfl, rfl⟩)
        · have hle := lk_at_le M p n (M 15 t)
          refine lv_aload_n hx hb d_MO_searches_86 rfl (lv_at hl 1 rfl) ?_
          refine mo_get X rfl h 22 (by decide) rfl gf_MO_68 rfl d_MO_searches_87 ?_
          refine lv_bipush (v := nI 32) hx hb d_MO_searches_90 (by decide) ?_
          refine lv_iload_n hx hb d_MO_searches_92 rfl (lv_at hl 2 rfl) ?_
          refine lk_imulN hx hb d_MO_searches_93 ?_
          refine lv_aload_n hx hb d_MO_searches_94 rfl (lv_at hl 1 rfl) ?_
          refine mo_get X rfl h 2 (by decide) rfl gf_MO_13 rfl d_MO_searches_95 ?_
          refine lv_iload_n hx hb d_MO_searches_98 rfl (lv_at hl 0 rfl) ?_
          refine mo_ald X h 1 24 rfl (by decide) (j := p) (by omega) (by decide) d_MO_searches_99 ?_
          refine lk_top (nI v) (hl1) ?_
          refine lk_iaddN hx hb d_MO_searches_100 ?_
          refine lv_iload_n hx hb d_MO_searches_101 rfl (lv_at hl 0 rfl) ?_
          refine mo_ast X h 19 128 rfl (by decide) (j := 32 * t + v) (v := nI p) (by omega) (by decide) d_MO_searches_102 (fun H locs h => ?_)
          refine lv_aload_n hx hb d_MO_searches_103 rfl (lv_at hl 1 rfl) ?_
          refine mo_get X rfl h 17 (by decide) rfl gf_MO_53 rfl d_MO_searches_104 ?_
          refine lv_iload_n hx hb d_MO_searches_107 rfl (lv_at hl 2 rfl) ?_
          refine lv_aload_n hx hb d_MO_searches_108 rfl (lv_at hl 1 rfl) ?_
          refine mo_get X rfl h 9 (by decide) rfl gf_MO_34 rfl d_MO_searches_109 ?_
          refine lv_iconst (v := nI 5) hx hb d_MO_searches_112 (by decide) ?_
          refine lv_iload_n hx hb d_MO_searches_113 rfl (lv_at hl 0 rfl) ?_
          refine lk_imulN hx hb d_MO_searches_114 ?_
          refine lv_aload_n hx hb d_MO_searches_115 rfl (lv_at hl 1 rfl) ?_
          refine lv_iload_n hx hb d_MO_searches_116 rfl (lv_at hl 0 rfl) ?_
          refine lv_aload_n hx hb d_MO_searches_117 rfl (lv_at hl 1 rfl) ?_
          refine mo_get X rfl h 18 (by decide) rfl gf_MO_56 rfl d_MO_searches_118 ?_
          refine lv_iload_n hx hb d_MO_searches_121 rfl (lv_at hl 2 rfl) ?_
          refine mo_ald X h 15 4 rfl (by decide) (j := t) (by omega) (by decide) d_MO_searches_122 ?_
          refine lk_top (M 15 t) (lk_st_f (by decide)) ?_
          refine lk_goi (lk_runV (As := [.int (nI p), .int (M 15 t)]) (C := R_MO) X h (c_MO_from l D τ ad _ p n hp ((lk_st_f (by decide)).trans hc) (by omega) (M 15 t)) ⟨gc_MO_from, gm_MO_87, gn_MO, gd_MO_from, by decide, by decide⟩ gi_MO_from gs_MO_from ⟨0, 4, _, _, _, lk_w_get (by decide), rfl⟩ rfl hl.1 (Nat.le_of_ble_eq_true rfl) d_MO_searches_123 ⟨Nat.zero_le _, Nat.zero_le _⟩) h hA (fun r123 σ123 H locs hk9 h => ?_)
          rw [hk9.2] at h
          rw [hk9.1, show lk_at (lk_st M 19 (32 * t + v) (nI p)) p n (M 15 t) = lk_at M p n (M 15 t) from rfl]
          refine lk_iaddN hx hb d_MO_searches_126 ?_
          refine mo_ald X h 8 120 rfl (by decide) (j := 5 * p + lk_at M p n (M 15 t)) (by omega) (by decide) d_MO_searches_127 ?_
          refine lk_top (M 8 (5 * p + lk_at M p n (M 15 t))) (lk_st_f (by decide)) ?_
          refine mo_ast X h 14 4 rfl (by decide) (j := t) (v := M 8 (5 * p + lk_at M p n (M 15 t))) (by omega) (by decide) d_MO_searches_128 (fun H locs h => ?_)
          refine lv_goto (tgt := 213) hx hb d_MO_searches_129 (by decide) ?_
          refine lv_iconst (v := 0) hx hb d_MO_searches_213 (by decide) ?_
          exact lk_reti X h d_MO_searches_214 (by rw [mm_searches, if_neg (fun z => h14 z.1), if_neg hT39, if_neg (Int32.not_lt.mpr h60), if_pos (Int32.not_le.mp h83)]; exact ⟨rfl, rfl⟩)
      · refine lv_aload_n hx hb d_MO_searches_63 rfl (lv_at hl 1 rfl) ?_
        refine lv_iload_n hx hb d_MO_searches_64 rfl (lv_at hl 2 rfl) ?_
        refine lk_gov (lk_runV (As := [.int (nI t)]) (C := R_MO) X h (c_MO_goRight l D τ ad M t p ht hp hpl) ⟨gc_MO_goRight, gm_MO_136, gn_MO, gd_MO_goRight, by decide, by decide⟩ gi_MO_goRight gs_MO_goRight ⟨0, 4, _, _, _, lk_w_get (by decide), rfl⟩ rfl hl.1 (Nat.le_of_ble_eq_true rfl) d_MO_searches_65 ⟨Nat.zero_le _, Nat.zero_le _⟩) h hA (fun σ65 H locs hk9 h => ?_)
        rw [hk9] at h
        refine lv_goto (tgt := 213) hx hb d_MO_searches_68 (by decide) ?_
        refine lv_iconst (v := 0) hx hb d_MO_searches_213 (by decide) ?_
        exact lk_reti X h d_MO_searches_214 (by rw [mm_searches, if_neg (fun z => h14 z.1), if_neg hT39, if_pos (Int32.not_le.mp h60)]; exact ⟨rfl, rfl⟩)
  · refine lv_aload_n hx hb d_MO_searches_17 rfl (lv_at hl 1 rfl) ?_
    refine mo_get X rfl h 21 (by decide) rfl gf_MO_65 rfl d_MO_searches_18 ?_
    refine lv_iload_n hx hb d_MO_searches_21 rfl (lv_at hl 2 rfl) ?_
    refine mo_ald X h 18 4 rfl (by decide) (j := t) (by omega) (by decide) d_MO_searches_22 ?_
    refine lv_iconst (v := (-1)) hx hb d_MO_searches_23 (by decide) ?_
    refine lv_icmp_ne (tgt := 34) hx hb d_MO_searches_24 (by decide) (fun h24 => ?_) (fun h24 => ?_)
    · refine lv_aload_n hx hb d_MO_searches_34 rfl (lv_at hl 1 rfl) ?_
      refine lv_iload_n hx hb d_MO_searches_35 rfl (lv_at hl 2 rfl) ?_
      refine lk_goi (lk_runV (As := [.int (nI t)]) (C := R_MO) X h (c_MO_isLost l D τ ad M t p ht hp hpl) ⟨gc_MO_isLost, gm_MO_129, gn_MO, gd_MO_isLost, by decide, by decide⟩ gi_MO_isLost gs_MO_isLost ⟨0, 4, _, _, _, lk_w_get (by decide), rfl⟩ rfl hl.1 (Nat.le_of_ble_eq_true rfl) d_MO_searches_36 ⟨Nat.zero_le _, Nat.zero_le _⟩) h hA (fun r36 σ36 H locs hk9 h => ?_)
      obtain ⟨hk9, hm9⟩ := hk9
      rw [hm9] at h
      rcases hk9 with ⟨e9, hT39⟩ | ⟨e9, hT39⟩
      · rw [e9]
        refine lv_if_eq (tgt := 48) hx hb d_MO_searches_39 (by decide) (fun z => absurd z (by decide)) (fun _ => ?_)
        refine lv_aload_n hx hb d_MO_searches_42 rfl (lv_at hl 1 rfl) ?_
        refine lv_iload_n hx hb d_MO_searches_43 rfl (lv_at hl 2 rfl) ?_
        refine lk_goi (lk_runV (As := [.int (nI t)]) (C := R_MO) X h (c_MO_restart l D τ ad M t ht) ⟨gc_MO_restart, gm_MO_132, gn_MO, gd_MO_restart, by decide, by decide⟩ gi_MO_restart gs_MO_restart ⟨0, 4, _, _, _, lk_w_get (by decide), rfl⟩ rfl hl.1 (Nat.le_of_ble_eq_true rfl) d_MO_searches_44 ⟨Nat.zero_le _, Nat.zero_le _⟩) h hA (fun r44 σ44 H locs hk9 h => ?_)
        rw [hk9.2] at h
        rw [hk9.1]
        exact lk_reti X h d_MO_searches_47 (by rw [mm_searches, if_neg (fun z => h24 z.2), if_pos hT39]; exact ⟨rfl, rfl⟩)
      · rw [e9]
        refine lv_if_eq (tgt := 48) hx hb d_MO_searches_39 (by decide) (fun _ => ?_) (fun z => absurd z (by decide))
        obtain ⟨hc, hn, hl1, hv⟩ := hok hT39
        refine lv_aload_n hx hb d_MO_searches_48 rfl (lv_at hl 1 rfl) ?_
        refine mo_get X rfl h 4 (by decide) rfl gf_MO_19 rfl d_MO_searches_49 ?_
        refine lv_iload_n hx hb d_MO_searches_52 rfl (lv_at hl 0 rfl) ?_
        refine mo_ald X h 3 24 rfl (by decide) (j := p) (by omega) (by decide) d_MO_searches_53 ?_
        refine lv_aload_n hx hb d_MO_searches_54 rfl (lv_at hl 1 rfl) ?_
        refine mo_get X rfl h 18 (by decide) rfl gf_MO_56 rfl d_MO_searches_55 ?_
        refine lv_iload_n hx hb d_MO_searches_58 rfl (lv_at hl 2 rfl) ?_
        refine mo_ald X h 15 4 rfl (by decide) (j := t) (by omega) (by decide) d_MO_searches_59 ?_
        refine lv_icmp_ge (tgt := 71) hx hb d_MO_searches_60 (by decide) (fun h60 => ?_) (fun h60 => ?_)
        · refine lv_aload_n hx hb d_MO_searches_71 rfl (lv_at hl 1 rfl) ?_
          refine mo_get X rfl h 2 (by decide) rfl gf_MO_13 rfl d_MO_searches_72 ?_
          refine lv_iload_n hx hb d_MO_searches_75 rfl (lv_at hl 0 rfl) ?_
          refine mo_ald X h 1 24 rfl (by decide) (j := p) (by omega) (by decide) d_MO_searches_76 ?_
          refine lv_aload_n hx hb d_MO_searches_77 rfl (lv_at hl 1 rfl) ?_
          refine mo_get X rfl h 19 (by decide) rfl gf_MO_59 rfl d_MO_searches_78 ?_
          refine lv_iload_n hx hb d_MO_searches_81 rfl (lv_at hl 2 rfl) ?_
          refine mo_ald X h 16 4 rfl (by decide) (j := t) (by omega) (by decide) d_MO_searches_82 ?_
          refine lv_icmp_le (tgt := 132) hx hb d_MO_searches_83 (by decide) (fun h83 => ?_) (fun h83 => ?_)
          · refine lv_aload_n hx hb d_MO_searches_132 rfl (lv_at hl 1 rfl) ?_
            refine mo_get X rfl h 2 (by decide) rfl gf_MO_13 rfl d_MO_searches_133 ?_
            refine lv_iload_n hx hb d_MO_searches_136 rfl (lv_at hl 0 rfl) ?_
            refine mo_ald X h 1 24 rfl (by decide) (j := p) (by omega) (by decide) d_MO_searches_137 ?_
            refine lv_aload_n hx hb d_MO_searches_138 rfl (lv_at hl 1 rfl) ?_
            refine mo_get X rfl h 19 (by decide) rfl gf_MO_59 rfl d_MO_searches_139 ?_
            refine lv_iload_n hx hb d_MO_searches_142 rfl (lv_at hl 2 rfl) ?_
            refine mo_ald X h 16 4 rfl (by decide) (j := t) (by omega) (by decide) d_MO_searches_143 ?_
            refine lv_icmp_ge (tgt := 153) hx hb d_MO_searches_144 (by decide) (fun h144 => ?_) (fun h144 => ?_)
            · refine lv_aload_n hx hb d_MO_searches_153 rfl (lv_at hl 1 rfl) ?_
              refine mo_get X rfl h 15 (by decide) rfl gf_MO_47 rfl d_MO_searches_154 ?_
              refine lv_iload_n hx hb d_MO_searches_157 rfl (lv_at hl 2 rfl) ?_
              refine mo_ald X h 12 4 rfl (by decide) (j := t) (by omega) (by decide) d_MO_searches_158 ?_
              refine lv_if_ne (tgt := 206) hx hb d_MO_searches_159 (by decide) (fun h159 => ?_) (fun h159 => ?_)
              · refine lv_aload_n hx hb d_MO_searches_206 rfl (lv_at hl 1 rfl) ?_
                refine mo_get X rfl h 16 (by decide) rfl gf_MO_50 rfl d_MO_searches_207 ?_
                refine lv_iload_n hx hb d_MO_searches_210 rfl (lv_at hl 2 rfl) ?_
                refine lv_iconst (v := 1) hx hb d_MO_searches_211 (by decide) ?_
                refine mo_ast X h 13 4 rfl (by decide) (j := t) (v := 1) (by omega) (by decide) d_MO_searches_212 (fun H locs h => ?_)
                refine lv_iconst (v := 0) hx hb d_MO_searches_213 (by decide) ?_
                exact lk_reti X h d_MO_searches_214 (by rw [mm_searches, if_neg (fun z => h24 z.2), if_neg hT39, if_neg (Int32.not_lt.mpr h60), if_neg (Int32.not_lt.mpr h83), if_neg (Int32.not_lt.mpr h144), if_neg h159]; exact ⟨rfl, rfl⟩)
              · have hle := lk_at_le M p n (M 15 t)
                refine lv_aload_n hx hb d_MO_searches_162 rfl (lv_at hl 1 rfl) ?_
                refine lv_iload_n hx hb d_MO_searches_163 rfl (lv_at hl 2 rfl) ?_
                refine lv_aload_n hx hb d_MO_searches_164 rfl (lv_at hl 1 rfl) ?_
                refine lv_iload_n hx hb d_MO_searches_165 rfl (lv_at hl 0 rfl) ?_
                refine lv_aload_n hx hb d_MO_searches_166 rfl (lv_at hl 1 rfl) ?_
                refine mo_get X rfl h 18 (by decide) rfl gf_MO_56 rfl d_MO_searches_167 ?_
                refine lv_iload_n hx hb d_MO_searches_170 rfl (lv_at hl 2 rfl) ?_
                refine mo_ald X h 15 4 rfl (by decide) (j := t) (by omega) (by decide) d_MO_searches_171 ?_
                refine lk_goi (lk_runV (As := [.int (nI p), .int (M 15 t)]) (C := R_MO) X h (c_MO_has l D τ ad M p n hp hc (by omega) (M 15 t)) ⟨gc_MO_has, gm_MO_142, gn_MO, gd_MO_has, by decide, by decide⟩ gi_MO_has gs_MO_has ⟨0, 4, _, _, _, lk_w_get (by decide), rfl⟩ rfl hl.1 (Nat.le_of_ble_eq_true rfl) d_MO_searches_172 ⟨Nat.zero_le _, Nat.zero_le _⟩) h hA (fun r172 σ172 H locs hk9 h => ?_)
                obtain ⟨hk9, hm9⟩ := hk9
                rw [hm9] at h
                rcases hk9 with ⟨e9, hT175⟩ | ⟨e9, hT175⟩
                · rw [e9]
                  refine lv_if_eq (tgt := 201) hx hb d_MO_searches_175 (by decide) (fun z => absurd z (by decide)) (fun _ => ?_)
                  refine lv_aload_n hx hb d_MO_searches_178 rfl (lv_at hl 1 rfl) ?_
                  refine mo_get X rfl h 9 (by decide) rfl gf_MO_34 rfl d_MO_searches_179 ?_
                  refine lv_iconst (v := nI 5) hx hb d_MO_searches_182 (by decide) ?_
                  refine lv_iload_n hx hb d_MO_searches_183 rfl (lv_at hl 0 rfl) ?_
                  refine lk_imulN hx hb d_MO_searches_184 ?_
                  refine lv_aload_n hx hb d_MO_searches_185 rfl (lv_at hl 1 rfl) ?_
                  refine lv_iload_n hx hb d_MO_searches_186 rfl (lv_at hl 0 rfl) ?_
                  refine lv_aload_n hx hb d_MO_searches_187 rfl (lv_at hl 1 rfl) ?_
                  refine mo_get X rfl h 18 (by decide) rfl gf_MO_56 rfl d_MO_searches_188 ?_
                  refine lv_iload_n hx hb d_MO_searches_191 rfl (lv_at hl 2 rfl) ?_
                  refine mo_ald X h 15 4 rfl (by decide) (j := t) (by omega) (by decide) d_MO_searches_192 ?_
                  refine lk_goi (lk_runV (As := [.int (nI p), .int (M 15 t)]) (C := R_MO) X h (c_MO_from l D τ ad M p n hp hc (by omega) (M 15 t)) ⟨gc_MO_from, gm_MO_87, gn_MO, gd_MO_from, by decide, by decide⟩ gi_MO_from gs_MO_from ⟨0, 4, _, _, _, lk_w_get (by decide), rfl⟩ rfl hl.1 (Nat.le_of_ble_eq_true rfl) d_MO_searches_193 ⟨Nat.zero_le _, Nat.zero_le _⟩) h hA (fun r193 σ193 H locs hk9 h => ?_)
                  rw [hk9.2] at h
                  rw [hk9.1]
                  refine lk_iaddN hx hb d_MO_searches_196 ?_
                  refine mo_ald X h 8 120 rfl (by decide) (j := 5 * p + lk_at M p n (M 15 t)) (by omega) (by decide) d_MO_searches_197 ?_
                  refine lv_goto (tgt := 202) hx hb d_MO_searches_198 (by decide) ?_
                  refine lk_goi (lk_runV (As := [.int (nI t), .int (M 8 (5 * p + lk_at M p n (M 15 t)))]) (C := R_MO) X h (c_MO_finish l D τ ad _ t ht _) ⟨gc_MO_finish, gm_MO_126, gn_MO, gd_MO_finish, by decide, by decide⟩ gi_MO_finish gs_MO_finish ⟨0, 4, _, _, _, lk_w_get (by decide), rfl⟩ rfl hl.1 (Nat.le_of_ble_eq_true rfl) d_MO_searches_202 ⟨Nat.zero_le _, Nat.zero_le _⟩) h hA (fun r202 σ202 H locs hk9 h => ?_)
                  rw [hk9.2] at h
                  rw [hk9.1]
                  exact lk_reti X h d_MO_searches_205 (by rw [mm_searches, if_neg (fun z => h24 z.2), if_neg hT39, if_neg (Int32.not_lt.mpr h60), if_neg (Int32.not_lt.mpr h83), if_neg (Int32.not_lt.mpr h144), if_pos h159, if_pos hT175]; exact ⟨rfl, rfl⟩)
                · rw [e9]
                  refine lv_if_eq (tgt := 201) hx hb d_MO_searches_175 (by decide) (fun _ => ?_) (fun z => absurd z (by decide))
                  refine lv_iconst (v := (-1)) hx hb d_MO_searches_201 (by decide) ?_
                  refine lk_goi (lk_runV (As := [.int (nI t), .int (-1)]) (C := R_MO) X h (c_MO_finish l D τ ad _ t ht (-1)) ⟨gc_MO_finish, gm_MO_126, gn_MO, gd_MO_finish, by decide, by decide⟩ gi_MO_finish gs_MO_finish ⟨0, 4, _, _, _, lk_w_get (by decide), rfl⟩ rfl hl.1 (Nat.le_of_ble_eq_true rfl) d_MO_searches_202 ⟨Nat.zero_le _, Nat.zero_le _⟩) h hA (fun r202 σ202 H locs hk9 h => ?_)
                  rw [hk9.2] at h
                  rw [hk9.1]
                  exact lk_reti X h d_MO_searches_205 (by rw [mm_searches, if_neg (fun z => h24 z.2), if_neg hT39, if_neg (Int32.not_lt.mpr h60), if_neg (Int32.not_lt.mpr h83), if_neg (Int32.not_lt.mpr h144), if_pos h159, if_neg hT175]; exact ⟨rfl, rfl⟩)
            · refine lv_aload_n hx hb d_MO_searches_147 rfl (lv_at hl 1 rfl) ?_
              refine lv_iload_n hx hb d_MO_searches_148 rfl (lv_at hl 2 rfl) ?_
              refine lk_goi (lk_runV (As := [.int (nI t)]) (C := R_MO) X h (c_MO_rises l D τ ad M t rt ht hrt hr0) ⟨gc_MO_rises, gm_MO_139, gn_MO, gd_MO_rises, by decide, by decide⟩ gi_MO_rises gs_MO_rises ⟨0, 4, _, _, _, lk_w_get (by decide), rfl⟩ rfl hl.1 (Nat.le_of_ble_eq_true rfl) d_MO_searches_149 ⟨Nat.zero_le _, Nat.zero_le _⟩) h hA (fun r149 σ149 H locs hk9 h => ?_)
              rw [hk9.2] at h
              rw [hk9.1]
              exact lk_reti X h d_MO_searches_152 (by rw [mm_searches, if_neg (fun z => h24 z.2), if_neg hT39, if_neg (Int32.not_lt.mpr h60), if_neg (Int32.not_lt.mpr h83), if_pos (Int32.not_le.mp h144)]; exact ⟨rfl, rfl⟩)
          · have hle := lk_at_le M p n (M 15 t)
            refine lv_aload_n hx hb d_MO_searches_86 rfl (lv_at hl 1 rfl) ?_
            refine mo_get X rfl h 22 (by decide) rfl gf_MO_68 rfl d_MO_searches_87 ?_
            refine lv_bipush (v := nI 32) hx hb d_MO_searches_90 (by decide) ?_
            refine lv_iload_n hx hb d_MO_searches_92 rfl (lv_at hl 2 rfl) ?_
            refine lk_imulN hx hb d_MO_searches_93 ?_
            refine lv_aload_n hx hb d_MO_searches_94 rfl (lv_at hl 1 rfl) ?_
            refine mo_get X rfl h 2 (by decide) rfl gf_MO_13 rfl d_MO_searches_95 ?_
            refine lv_iload_n hx hb d_MO_searches_98 rfl (lv_at hl 0 rfl) ?_
            refine mo_ald X h 1 24 rfl (by decide) (j := p) (by omega) (by decide) d_MO_searches_99 ?_
            refine lk_top (nI v) (hl1) ?_
            refine lk_iaddN hx hb d_MO_searches_100 ?_
            refine lv_iload_n hx hb d_MO_searches_101 rfl (lv_at hl 0 rfl) ?_
            refine mo_ast X h 19 128 rfl (by decide) (j := 32 * t + v) (v := nI p) (by omega) (by decide) d_MO_searches_102 (fun H locs h => ?_)
            refine lv_aload_n hx hb d_MO_searches_103 rfl (lv_at hl 1 rfl) ?_
            refine mo_get X rfl h 17 (by decide) rfl gf_MO_53 rfl d_MO_searches_104 ?_
            refine lv_iload_n hx hb d_MO_searches_107 rfl (lv_at hl 2 rfl) ?_
            refine lv_aload_n hx hb d_MO_searches_108 rfl (lv_at hl 1 rfl) ?_
            refine mo_get X rfl h 9 (by decide) rfl gf_MO_34 rfl d_MO_searches_109 ?_
            refine lv_iconst (v := nI 5) hx hb d_MO_searches_112 (by decide) ?_
            refine lv_iload_n hx hb d_MO_searches_113 rfl (lv_at hl 0 rfl) ?_
            refine lk_imulN hx hb d_MO_searches_114 ?_
            refine lv_aload_n hx hb d_MO_searches_115 rfl (lv_at hl 1 rfl) ?_
            refine lv_iload_n hx hb d_MO_searches_116 rfl (lv_at hl 0 rfl) ?_
            refine lv_aload_n hx hb d_MO_searches_117 rfl (lv_at hl 1 rfl) ?_
            refine mo_get X rfl h 18 (by decide) rfl gf_MO_56 rfl d_MO_searches_118 ?_
            refine lv_iload_n hx hb d_MO_searches_121 rfl (lv_at hl 2 rfl) ?_
            refine mo_ald X h 15 4 rfl (by decide) (j := t) (by omega) (by decide) d_MO_searches_122 ?_
            refine lk_top (M 15 t) (lk_st_f (by decide)) ?_
            refine lk_goi (lk_runV (As := [.int (nI p), .int (M 15 t)]) (C := R_MO) X h (c_MO_from l D τ ad _ p n hp ((lk_st_f (by decide)).trans hc) (by omega) (M 15 t)) ⟨gc_MO_from, gm_MO_87, gn_MO, gd_MO_from, by decide, by decide⟩ gi_MO_from gs_MO_from ⟨0, 4, _, _, _, lk_w_get (by decide), rfl⟩ rfl hl.1 (Nat.le_of_ble_eq_true rfl) d_MO_searches_123 ⟨Nat.zero_le _, Nat.zero_le _⟩) h hA (fun r123 σ123 H locs hk9 h => ?_)
            rw [hk9.2] at h
            rw [hk9.1, show lk_at (lk_st M 19 (32 * t + v) (nI p)) p n (M 15 t) = lk_at M p n (M 15 t) from rfl]
            refine lk_iaddN hx hb d_MO_searches_126 ?_
            refine mo_ald X h 8 120 rfl (by decide) (j := 5 * p + lk_at M p n (M 15 t)) (by omega) (by decide) d_MO_searches_127 ?_
            refine lk_top (M 8 (5 * p + lk_at M p n (M 15 t))) (lk_st_f (by decide)) ?_
            refine mo_ast X h 14 4 rfl (by decide) (j := t) (v := M 8 (5 * p + lk_at M p n (M 15 t))) (by omega) (by decide) d_MO_searches_128 (fun H locs h => ?_)
            refine lv_goto (tgt := 213) hx hb d_MO_searches_129 (by decide) ?_
            refine lv_iconst (v := 0) hx hb d_MO_searches_213 (by decide) ?_
            exact lk_reti X h d_MO_searches_214 (by rw [mm_searches, if_neg (fun z => h24 z.2), if_neg hT39, if_neg (Int32.not_lt.mpr h60), if_pos (Int32.not_le.mp h83)]; exact ⟨rfl, rfl⟩)
        · refine lv_aload_n hx hb d_MO_searches_63 rfl (lv_at hl 1 rfl) ?_
          refine lv_iload_n hx hb d_MO_searches_64 rfl (lv_at hl 2 rfl) ?_
          refine lk_gov (lk_runV (As := [.int (nI t)]) (C := R_MO) X h (c_MO_goRight l D τ ad M t p ht hp hpl) ⟨gc_MO_goRight, gm_MO_136, gn_MO, gd_MO_goRight, by decide, by decide⟩ gi_MO_goRight gs_MO_goRight ⟨0, 4, _, _, _, lk_w_get (by decide), rfl⟩ rfl hl.1 (Nat.le_of_ble_eq_true rfl) d_MO_searches_65 ⟨Nat.zero_le _, Nat.zero_le _⟩) h hA (fun σ65 H locs hk9 h => ?_)
          rw [hk9] at h
          refine lv_goto (tgt := 213) hx hb d_MO_searches_68 (by decide) ?_
          refine lv_iconst (v := 0) hx hb d_MO_searches_213 (by decide) ?_
          exact lk_reti X h d_MO_searches_214 (by rw [mm_searches, if_neg (fun z => h24 z.2), if_neg hT39, if_pos (Int32.not_le.mp h60)]; exact ⟨rfl, rfl⟩)
    · refine lv_aload_n hx hb d_MO_searches_27 rfl (lv_at hl 1 rfl) ?_
      refine lv_iload_n hx hb d_MO_searches_28 rfl (lv_at hl 2 rfl) ?_
      refine lv_iconst (v := 0) hx hb d_MO_searches_29 (by decide) ?_
      refine lk_goi (lk_runV (As := [.int (nI t), .int 0]) (C := R_MO) X h (c_MO_finish l D τ ad _ t ht 0) ⟨gc_MO_finish, gm_MO_126, gn_MO, gd_MO_finish, by decide, by decide⟩ gi_MO_finish gs_MO_finish ⟨0, 4, _, _, _, lk_w_get (by decide), rfl⟩ rfl hl.1 (Nat.le_of_ble_eq_true rfl) d_MO_searches_30 ⟨Nat.zero_le _, Nat.zero_le _⟩) h hA (fun r30 σ30 H locs hk9 h => ?_)
      rw [hk9.2] at h
      rw [hk9.1]
      exact lk_reti X h d_MO_searches_33 (by rw [mm_searches, if_pos ⟨h14, h24⟩]; exact ⟨rfl, rfl⟩)
