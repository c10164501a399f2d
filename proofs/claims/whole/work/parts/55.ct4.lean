set_option maxRecDepth 20000 in
theorem c_LT_root (l : Launch) (D : va_G) (τ : Nat → ClassId) (ad : Nat → Nat) (M : lk_M) : lk_Ci l D τ 88 ad (lk_ce τ ad) y_LT_root b_LT_root 1 (.int) 0 0 [.ref (ad 0)] M (fun r M1 => r = M 24 0 ∧ M1 = M) := by
  refine lk_openi (by decide +kernel) (Nat.le_of_ble_eq_true rfl) ?_
  intro pg en s m args below meth cd ls A X h hA hl
  obtain ⟨hx, hb, -⟩ := id X
  have hl : lv_has ls 1 [(0, .ref (ad 0))] := hl
  refine lv_aload_n hx hb d_LT_root_0 rfl (lv_at hl 0 rfl) ?_
  refine ct_get X h (q0 := 0) (by omega) rfl rfl gl_LT 4 (by decide) rfl gf_LT_40 rfl d_LT_root_1 ?_
  exact lk_reti X h d_LT_root_4 (⟨rfl, rfl⟩)
set_option maxRecDepth 20000 in
theorem c_LT_queued (l : Launch) (D : va_G) (τ : Nat → ClassId) (ad : Nat → Nat) (M : lk_M) : lk_Ci l D τ 88 ad (lk_ce τ ad) y_LT_queued b_LT_queued 1 (.int) 0 0 [.ref (ad 0)] M (fun r M1 => r = M 24 1 ∧ M1 = M) := by
  refine lk_openi (by decide +kernel) (Nat.le_of_ble_eq_true rfl) ?_
  intro pg en s m args below meth cd ls A X h hA hl
  obtain ⟨hx, hb, -⟩ := id X
  have hl : lv_has ls 1 [(0, .ref (ad 0))] := hl
  refine lv_aload_n hx hb d_LT_queued_0 rfl (lv_at hl 0 rfl) ?_
  refine ct_get X h (q0 := 0) (by omega) rfl rfl gl_LT 3 (by decide) rfl gf_LT_36 rfl d_LT_queued_1 ?_
  refine ct_get X h (q0 := 3) (by omega) rfl rfl gl_SP 1 (by decide) rfl gf_LT_161 rfl d_LT_queued_4 ?_
  exact lk_reti X h d_LT_queued_7 (⟨rfl, rfl⟩)
set_option maxRecDepth 20000 in
theorem c_LT_split (l : Launch) (D : va_G) (τ : Nat → ClassId) (ad : Nat → Nat) (M : lk_M) (t p q v : Nat) (ht : t < 4) (hp : p < 24) (hv : v ≤ 23) (hl1 : M 1 p = nI v) (hc : M 5 p = nI 5) (hq : q < 24) (hpq : p ≠ q) : lk_Cv l D τ 88 ad (lk_ce τ ad) y_LT_split b_LT_split 6 1 24 [.ref (ad 0), .ref (ad (80 + t)), .ref (ad (5 + p)), .ref (ad (5 + q))] M (fun M1 => M1 = mm_split M t p q v) := by
  refine lk_openv (by decide +kernel) (Nat.le_of_ble_eq_true rfl) ?_
  intro pg en s m args below meth cd ls A X h hA hl
  obtain ⟨hx, hb, -⟩ := id X
  have hl : lv_has ls 6 [(0, .ref (ad 0)), (1, .ref (ad (80 + t))), (2, .ref (ad (5 + p))), (3, .ref (ad (5 + q)))] := hl
  refine lv_aload_n hx hb d_LT_split_0 rfl (lv_at hl 2 rfl) ?_
  refine ct_get X h (q0 := 5 + p) (by omega) (lk_ce_n (by omega)) rfl gl_ND 1 (by decide) rfl gf_LT_158 rfl d_LT_split_1 ?_
  refine lv_iconst (v := nI 2) hx hb d_LT_split_4 (by decide) ?_
  refine nd_ald7 X h (q := p) (j := 2) (by omega) (by omega) d_LT_split_5 ?_
  refine lv_istore hx hb d_LT_split_6 hl (by decide) rfl (fun ls hl => ?_)
  have hl : lv_has ls 6 [(4, .int (M 7 (5 * p + 2))), (0, .ref (ad 0)), (1, .ref (ad (80 + t))), (2, .ref (ad (5 + p))), (3, .ref (ad (5 + q)))] := hl
  refine lv_aload_n hx hb d_LT_split_8 rfl (lv_at hl 4 rfl) ?_
  refine lv_aload_n hx hb d_LT_split_9 rfl (lv_at hl 3 rfl) ?_
  refine ct_get X h (q0 := 5 + p) (by omega) (lk_ce_n (by omega)) rfl gl_ND 5 (by decide) rfl gf_LT_132 rfl d_LT_split_10 ?_
  refine lk_top (nI v) (hl1) ?_
  refine lv_iload hx hb d_LT_split_13 (lv_at hl 0 rfl) ?_
  refine lv_aload_n hx hb d_LT_split_15 rfl (lv_at hl 3 rfl) ?_
  refine ct_get X h (q0 := 5 + p) (by omega) (lk_ce_n (by omega)) rfl gl_ND 7 (by decide) rfl gf_LT_136 rfl d_LT_split_16 ?_
  refine lv_aload_n hx hb d_LT_split_19 rfl (lv_at hl 3 rfl) ?_
  refine ct_get X h (q0 := 5 + p) (by omega) (lk_ce_n (by omega)) rfl gl_ND 8 (by decide) rfl gf_LT_139 rfl d_LT_split_20 ?_
  refine lk_gov (lk_runV (As := [.int (nI v), .int (M 7 (5 * p + 2)), .int (M 3 p), .int (M 4 p)]) (C := R_ND) X h (c_ND_become l D τ ad M q (by omega) _ _ _ _) ⟨gc_ND_become, gm_LT_43, gn_ND, gd_ND_become, by decide, by decide⟩ gi_ND_become gs_ND_become ⟨5 + q, 1, _, _, _, by rw [lk_w_get (by omega), lk_ce_n (by omega)], rfl⟩ rfl hl.1 (Nat.le_of_ble_eq_true rfl) d_LT_split_23 ⟨Nat.zero_le _, Nat.zero_le _⟩) h hA (fun σ23 H locs hk9 h => ?_)
  rw [hk9] at h
  refine lv_iconst (v := nI 3) hx hb d_LT_split_26 (by decide) ?_
  refine lv_istore hx hb d_LT_split_27 hl (by decide) rfl (fun ls hl => ?_)
  have hl : lv_has ls 6 [(5, .int (nI 3)), (4, .int (M 7 (5 * p + 2))), (0, .ref (ad 0)), (1, .ref (ad (80 + t))), (2, .ref (ad (5 + p))), (3, .ref (ad (5 + q)))] := hl
  refine lv_iload hx hb d_LT_split_29 (lv_at hl 0 rfl) ?_
  refine lv_aload_n hx hb d_LT_split_31 rfl (lv_at hl 4 rfl) ?_
  refine ct_get X h (q0 := 5 + p) (by omega) (lk_ce_n (by omega)) rfl gl_ND 3 (by decide) rfl gf_LT_142 rfl d_LT_split_32 ?_
  refine lk_top (nI 5) ((lk_mk_p hpq).trans hc) ?_
  refine lv_icmp_ge (tgt := 66) hx hb d_LT_split_35 (by decide) (fun z => absurd z (by decide)) (fun _ => ?_)
  refine lv_aload_n hx hb d_LT_split_38 rfl (lv_at hl 5 rfl) ?_
  refine lv_aload_n hx hb d_LT_split_39 rfl (lv_at hl 5 rfl) ?_
  refine ct_get X h (q0 := 5 + q) (by omega) (lk_ce_n (by omega)) rfl gl_ND 3 (by decide) rfl gf_LT_142 rfl d_LT_split_40 ?_
  refine lk_top (nI 0) (lk_mk_5) ?_
  refine lv_aload_n hx hb d_LT_split_43 rfl (lv_at hl 4 rfl) ?_
  refine ct_get X h (q0 := 5 + p) (by omega) (lk_ce_n (by omega)) rfl gl_ND 1 (by decide) rfl gf_LT_158 rfl d_LT_split_44 ?_
  refine lv_iload hx hb d_LT_split_47 (lv_at hl 0 rfl) ?_
  refine nd_ald7 X h (q := p) (j := 3) (by omega) (by omega) d_LT_split_49 ?_
  refine lk_top (M 7 (5 * p + 3)) (lk_mk_f (by decide)) ?_
  refine lv_aload_n hx hb d_LT_split_50 rfl (lv_at hl 4 rfl) ?_
  refine ct_get X h (q0 := 5 + p) (by omega) (lk_ce_n (by omega)) rfl gl_ND 2 (by decide) rfl gf_LT_154 rfl d_LT_split_51 ?_
  refine lv_iload hx hb d_LT_split_54 (lv_at hl 0 rfl) ?_
  refine nd_ald8 X h (q := p) (j := 3) (by omega) (by omega) d_LT_split_56 ?_
  refine lk_top (M 8 (5 * p + 3)) (lk_mk_f (by decide)) ?_
  refine lk_gov (lk_runV (As := [.int (nI 0), .int (M 7 (5 * p + 3)), .int (M 8 (5 * p + 3))]) (C := R_ND) X h (c_ND_insert l D τ ad _ q 0 0 (by omega) lk_mk_5 (by omega) (by omega) _ _) ⟨gc_ND_insert, gm_LT_219, gn_ND, gd_ND_insert, by decide, by decide⟩ gi_ND_insert gs_ND_insert ⟨5 + q, 1, _, _, _, by rw [lk_w_get (by omega), lk_ce_n (by omega)], rfl⟩ rfl hl.1 (Nat.le_of_ble_eq_true rfl) d_LT_split_57 ⟨Nat.zero_le _, Nat.zero_le _⟩) h hA (fun σ57 H locs hk9 h => ?_)
  rw [hk9] at h
  refine lv_iinc (k := 0) (v := nI 4) hx hb d_LT_split_60 hl rfl (by decide) (by decide) rfl (fun ls hl => ?_)
  have hl : lv_has ls 6 [(5, .int (nI 4)), (4, .int (M 7 (5 * p + 2))), (0, .ref (ad 0)), (1, .ref (ad (80 + t))), (2, .ref (ad (5 + p))), (3, .ref (ad (5 + q)))] := hl
  refine lv_goto (tgt := 29) hx hb d_LT_split_63 (by decide) ?_
  refine lv_iload hx hb d_LT_split_29 (lv_at hl 0 rfl) ?_
  refine lv_aload_n hx hb d_LT_split_31 rfl (lv_at hl 4 rfl) ?_
  refine ct_get X h (q0 := 5 + p) (by omega) (lk_ce_n (by omega)) rfl gl_ND 3 (by decide) rfl gf_LT_142 rfl d_LT_split_32 ?_
  refine lk_top (nI 5) (lk_ins_5.trans ((if_neg hpq).trans ((lk_mk_p hpq).trans hc))) ?_
  refine lv_icmp_ge (tgt := 66) hx hb d_LT_split_35 (by decide) (fun z => absurd z (by decide)) (fun _ => ?_)
  refine lv_aload_n hx hb d_LT_split_38 rfl (lv_at hl 5 rfl) ?_
  refine lv_aload_n hx hb d_LT_split_39 rfl (lv_at hl 5 rfl) ?_
  refine ct_get X h (q0 := 5 + q) (by omega) (lk_ce_n (by omega)) rfl gl_ND 3 (by decide) rfl gf_LT_142 rfl d_LT_split_40 ?_
  refine lk_top (nI 1) (lk_ins_5.trans (if_pos rfl)) ?_
  refine lv_aload_n hx hb d_LT_split_43 rfl (lv_at hl 4 rfl) ?_
  refine ct_get X h (q0 := 5 + p) (by omega) (lk_ce_n (by omega)) rfl gl_ND 1 (by decide) rfl gf_LT_158 rfl d_LT_split_44 ?_
  refine lv_iload hx hb d_LT_split_47 (lv_at hl 0 rfl) ?_
  refine nd_ald7 X h (q := p) (j := 4) (by omega) (by omega) d_LT_split_49 ?_
  refine lk_top (M 7 (5 * p + 4)) ((lk_ins_o (by decide) (by omega) (by omega)).trans (lk_mk_f (by decide))) ?_
  refine lv_aload_n hx hb d_LT_split_50 rfl (lv_at hl 4 rfl) ?_
  refine ct_get X h (q0 := 5 + p) (by omega) (lk_ce_n (by omega)) rfl gl_ND 2 (by decide) rfl gf_LT_154 rfl d_LT_split_51 ?_
  refine lv_iload hx hb d_LT_split_54 (lv_at hl 0 rfl) ?_
  refine nd_ald8 X h (q := p) (j := 4) (by omega) (by omega) d_LT_split_56 ?_
  refine lk_top (M 8 (5 * p + 4)) ((lk_ins_o (by decide) (by omega) (by omega)).trans (lk_mk_f (by decide))) ?_
  refine lk_gov (lk_runV (As := [.int (nI 1), .int (M 7 (5 * p + 4)), .int (M 8 (5 * p + 4))]) (C := R_ND) X h (c_ND_insert l D τ ad _ q 1 1 (by omega) (lk_ins_5.trans (if_pos rfl)) (by omega) (by omega) _ _) ⟨gc_ND_insert, gm_LT_219, gn_ND, gd_ND_insert, by decide, by decide⟩ gi_ND_insert gs_ND_insert ⟨5 + q, 1, _, _, _, by rw [lk_w_get (by omega), lk_ce_n (by omega)], rfl⟩ rfl hl.1 (Nat.le_of_ble_eq_true rfl) d_LT_split_57 ⟨Nat.zero_le _, Nat.zero_le _⟩) h hA (fun σ57 H locs hk9 h => ?_)
  rw [hk9] at h
  refine lv_iinc (k := 0) (v := nI 5) hx hb d_LT_split_60 hl rfl (by decide) (by decide) rfl (fun ls hl => ?_)
  have hl : lv_has ls 6 [(5, .int (nI 5)), (4, .int (M 7 (5 * p + 2))), (0, .ref (ad 0)), (1, .ref (ad (80 + t))), (2, .ref (ad (5 + p))), (3, .ref (ad (5 + q)))] := hl
  refine lv_goto (tgt := 29) hx hb d_LT_split_63 (by decide) ?_
  refine lv_iload hx hb d_LT_split_29 (lv_at hl 0 rfl) ?_
  refine lv_aload_n hx hb d_LT_split_31 rfl (lv_at hl 4 rfl) ?_
  refine ct_get X h (q0 := 5 + p) (by omega) (lk_ce_n (by omega)) rfl gl_ND 3 (by decide) rfl gf_LT_142 rfl d_LT_split_32 ?_
  refine lk_top (nI 5) (lk_ins_5.trans ((if_neg hpq).trans (lk_ins_5.trans ((if_neg hpq).trans ((lk_mk_p hpq).trans hc))))) ?_
  refine lv_icmp_ge (tgt := 66) hx hb d_LT_split_35 (by decide) (fun _ => ?_) (fun z => absurd z (by decide))
  refine lv_aload_n hx hb d_LT_split_66 rfl (lv_at hl 4 rfl) ?_
  refine lv_iconst (v := 3) hx hb d_LT_split_67 (by decide) ?_
  refine nd_put3 X h (q := p) (by omega) gf_LT_142 d_LT_split_68 (fun H locs h => ?_)
  refine lv_aload_n hx hb d_LT_split_71 rfl (lv_at hl 4 rfl) ?_
  refine lv_iload hx hb d_LT_split_72 (lv_at hl 1 rfl) ?_
  refine nd_put7 X h (q := p) (by omega) gf_LT_136 d_LT_split_74 (fun H locs h => ?_)
  refine lv_aload_n hx hb d_LT_split_77 rfl (lv_at hl 4 rfl) ?_
  refine lv_aload_n hx hb d_LT_split_78 rfl (lv_at hl 5 rfl) ?_
  refine ct_get X h (q0 := 5 + q) (by omega) (lk_ce_n (by omega)) rfl gl_ND 0 (by decide) rfl gf_LT_198 rfl d_LT_split_79 ?_
  refine lk_top (nI q) (lk_num_lt (by omega)) ?_
  refine nd_put8 X h (q := p) (by omega) gf_LT_139 d_LT_split_82 (fun H locs h => ?_)
  refine lv_aload_n hx hb d_LT_split_85 rfl (lv_at hl 3 rfl) ?_
  refine lv_iconst (v := 4) hx hb d_LT_split_86 (by decide) ?_
  refine ta_put3 X h (t := t) (by omega) gf_LT_69 d_LT_split_87 (fun H locs h => ?_)
  refine lv_aload_n hx hb d_LT_split_90 rfl (lv_at hl 3 rfl) ?_
  refine lv_aload_n hx hb d_LT_split_91 rfl (lv_at hl 5 rfl) ?_
  refine ct_get X h (q0 := 5 + q) (by omega) (lk_ce_n (by omega)) rfl gl_ND 0 (by decide) rfl gf_LT_198 rfl d_LT_split_92 ?_
  refine lk_top (nI q) (lk_num_lt (by omega)) ?_
  refine ta_put9 X h (t := t) (by omega) gf_LT_172 d_LT_split_95 (fun H locs h => ?_)
  refine lv_aload_n hx hb d_LT_split_98 rfl (lv_at hl 3 rfl) ?_
  refine lv_iload hx hb d_LT_split_99 (lv_at hl 1 rfl) ?_
  refine ta_put6 X h (t := t) (by omega) gf_LT_72 d_LT_split_101 (fun H locs h => ?_)
  refine lv_aload_n hx hb d_LT_split_104 rfl (lv_at hl 3 rfl) ?_
  refine lv_aload_n hx hb d_LT_split_105 rfl (lv_at hl 4 rfl) ?_
  refine ct_get X h (q0 := 5 + p) (by omega) (lk_ce_n (by omega)) rfl gl_ND 5 (by decide) rfl gf_LT_132 rfl d_LT_split_106 ?_
  refine lk_top (nI v) ((lk_st_f (by decide)).trans ((lk_st_f (by decide)).trans ((lk_st_f (by decide)).trans ((lk_st_f (by decide)).trans ((lk_st_f (by decide)).trans ((lk_st_f (by decide)).trans ((lk_ins_f (by decide) (by decide) (by decide)).trans ((lk_ins_f (by decide) (by decide) (by decide)).trans ((lk_mk_p hpq).trans hl1))))))))) ?_
  refine lv_iconst (v := nI 1) hx hb d_LT_split_109 (by decide) ?_
  refine lk_iaddN hx hb d_LT_split_110 ?_
  refine ta_put8 X h (t := t) (by omega) gf_LT_78 d_LT_split_111 (fun H locs h => ?_)
  refine lv_aload_n hx hb d_LT_split_114 rfl (lv_at hl 3 rfl) ?_
  refine lv_iconst (v := 0) hx hb d_LT_split_115 (by decide) ?_
  refine ta_put4 X h (t := t) (by omega) gf_LT_115 d_LT_split_116 (fun H locs h => ?_)
  refine lv_aload_n hx hb d_LT_split_119 rfl (lv_at hl 3 rfl) ?_
  refine lv_aload_n hx hb d_LT_split_120 rfl (lv_at hl 3 rfl) ?_
  refine ct_get X h (q0 := 80 + t) (by omega) (lk_ce_t (by omega)) rfl gl_TA 8 (by decide) rfl gf_LT_78 rfl d_LT_split_121 ?_
  refine lk_top (nI (v + 1)) ((lk_st_f (by decide)).trans (lk_st_s)) ?_
  refine lk_goi (lk_runV (As := [.int (nI (v + 1))]) (C := R_TA) X h (c_TA_notedAt l D τ ad _ t (v + 1) ht (by omega)) ⟨gc_TA_notedAt, gm_LT_253, gn_TA, gd_TA_notedAt, by decide, by decide⟩ gi_TA_notedAt gs_TA_notedAt ⟨80 + t, 2, _, _, _, by rw [lk_w_get (by omega), lk_ce_t (by omega)], rfl⟩ rfl hl.1 (Nat.le_of_ble_eq_true rfl) d_LT_split_124 ⟨Nat.zero_le _, Nat.zero_le _⟩) h hA (fun r124 σ124 H locs hk9 h => ?_)
  have e19 : (lk_st (lk_st (lk_st (lk_st (lk_st (lk_st (lk_st (lk_st (lk_ins (lk_ins (lk_mk M q (nI v) (M 7 (5 * p + 2)) (M 3 p) (M 4 p)) q 0 0 (M 7 (5 * p + 3)) (M 8 (5 * p + 3))) q 1 1 (M 7 (5 * p + 4)) (M 8 (5 * p + 4))) 5 p 3) 3 p (M 7 (5 * p + 2))) 4 p (nI q)) 12 t 4) 18 t (nI q)) 15 t (M 7 (5 * p + 2))) 16 t (nI (v + 1))) 13 t 0) 19 (32 * t + (v + 1)) = M 19 (32 * t + (v + 1)) := rfl
  rw [hk9.2] at h
  rw [hk9.1, e19]
  refine lv_istore hx hb d_LT_split_127 hl (by decide) rfl (fun ls hl => ?_)
  have hl : lv_has ls 6 [(5, .int (M 19 (32 * t + (v + 1)))), (4, .int (M 7 (5 * p + 2))), (0, .ref (ad 0)), (1, .ref (ad (80 + t))), (2, .ref (ad (5 + p))), (3, .ref (ad (5 + q)))] := hl
  refine lv_aload_n hx hb d_LT_split_129 rfl (lv_at hl 3 rfl) ?_
  refine lv_iload hx hb d_LT_split_130 (lv_at hl 0 rfl) ?_
  refine lv_iconst (v := (-1)) hx hb d_LT_split_132 (by decide) ?_
  refine lv_icmp_ne (tgt := 143) hx hb d_LT_split_133 (by decide) (fun h1 => ?_) (fun h1 => ?_)
  · refine lv_iload hx hb d_LT_split_143 (lv_at hl 0 rfl) ?_
    refine ta_put5 X h (t := t) (by omega) gf_LT_118 d_LT_split_145 (fun H locs h => ?_)
    exact lk_retv X h d_LT_split_148 (by unfold mm_split lk_srch; rw [if_neg h1])
  · refine lv_aload_n hx hb d_LT_split_136 rfl (lv_at hl 2 rfl) ?_
    refine ct_get X h (q0 := 0) (by omega) rfl rfl gl_LT 4 (by decide) rfl gf_LT_40 rfl d_LT_split_137 ?_
    refine lk_top (M 24 0) ((lk_st_f (by decide)).trans ((lk_st_f (by decide)).trans ((lk_st_f (by decide)).trans ((lk_st_f (by decide)).trans ((lk_st_f (by decide)).trans ((lk_st_f (by decide)).trans ((lk_st_f (by decide)).trans ((lk_st_f (by decide)).trans ((lk_ins_f (by decide) (by decide) (by decide)).trans ((lk_ins_f (by decide) (by decide) (by decide)).trans (lk_mk_f (by decide)))))))))))) ?_
    refine lv_goto (tgt := 145) hx hb d_LT_split_140 (by decide) ?_
    refine ta_put5 X h (t := t) (by omega) gf_LT_118 d_LT_split_145 (fun H locs h => ?_)
    exact lk_retv X h d_LT_split_148 (by unfold mm_split lk_srch; rw [if_pos h1])
noncomputable def cc_puts (M : lk_M) (t p n v : Nat) : Int32 × lk_M :=
  @ite _ (lk_hk M p n (M 15 t)) (Classical.propDecidable _) (2, cc_fin (lk_st M 8 (5 * p + lk_at M p n (M 15 t)) (M 17 t)) t (M 8 (5 * p + lk_at M p n (M 15 t))))
    (if n < 4 then (2, cc_fin (lk_ins M p (lk_at M p n (M 15 t)) n (M 15 t) (M 17 t)) t (-1)) else if lk_free M < 24 then (3, mm_split (lk_ins M p (lk_at M p n (M 15 t)) n (M 15 t) (M 17 t)) t p (lk_free M) v) else (2, cc_fin M t (-2)))
noncomputable def cc_posts (M : lk_M) (t p n v : Nat) : Int32 × lk_M :=
  if n < 4 then (2, cc_fin (lk_st (lk_ins M p (lk_at M p n (M 15 t)) n (M 15 t) (M 8 (5 * p + lk_at M p n (M 15 t)))) 8 (5 * p + lk_at M p n (M 15 t) + 1) (M 18 t)) t (-1))
  else if lk_free M < 24 then (0, mm_split (lk_st (lk_ins M p (lk_at M p n (M 15 t)) n (M 15 t) (M 8 (5 * p + lk_at M p n (M 15 t)))) 8 (5 * p + lk_at M p n (M 15 t) + 1) (M 18 t)) t p (lk_free M) v) else (2, cc_fin M t (-1))
set_option maxRecDepth 20000 in
theorem c_LT_put (l : Launch) (D : va_G) (τ : Nat → ClassId) (ad : Nat → Nat) (M : lk_M) (t p n v : Nat) (ht : t < 4) (hp : p < 24) (hc : M 5 p = nI n) (hn : n ≤ 4) (hkd : M 0 p = 1) (hv : v ≤ 23) (hl1 : M 1 p = nI v) : lk_Ci l D τ 88 ad (lk_ce τ ad) y_LT_put b_LT_put 5 (.int) 3 65 [.ref (ad 0), .ref (ad (80 + t)), .ref (ad (5 + p))] M (fun r M1 => r = (cc_puts M t p n v).1 ∧ M1 = (cc_puts M t p n v).2) := by
  refine lk_openi (by decide +kernel) (Nat.le_of_ble_eq_true rfl) ?_
  intro pg en s m args below meth cd ls A X h hA hl
  obtain ⟨hx, hb, -⟩ := id X
  have hl : lv_has ls 5 [(0, .ref (ad 0)), (1, .ref (ad (80 + t))), (2, .ref (ad (5 + p)))] := hl
  have hle := lk_at_le M p n (M 15 t)
  refine lv_aload_n hx hb d_LT_put_0 rfl (lv_at hl 2 rfl) ?_
  refine lv_aload_n hx hb d_LT_put_1 rfl (lv_at hl 1 rfl) ?_
  refine ct_get X h (q0 := 80 + t) (by omega) (lk_ce_t (by omega)) rfl gl_TA 6 (by decide) rfl gf_LT_72 rfl d_LT_put_2 ?_
  refine lk_goi (lk_runV (As := [.int (M 15 t)]) (C := R_ND) X h (c_ND_firstNotBelow l D τ ad M p n (by omega) hc (by omega) (M 15 t)) ⟨gc_ND_firstNotBelow, gm_LT_239, gn_ND, gd_ND_firstNotBelow, by decide, by decide⟩ gi_ND_firstNotBelow gs_ND_firstNotBelow ⟨5 + p, 1, _, _, _, by rw [lk_w_get (by omega), lk_ce_n (by omega)], rfl⟩ rfl hl.1 (Nat.le_of_ble_eq_true rfl) d_LT_put_5 ⟨Nat.zero_le _, Nat.zero_le _⟩) h hA (fun r5 σ5 H locs hk9 h => ?_)
  rw [hk9.2] at h
  rw [hk9.1]
  refine lv_istore_n hx hb d_LT_put_8 rfl hl (by decide) rfl (fun ls hl => ?_)
  have hl : lv_has ls 5 [(3, .int (nI (lk_at M p n (M 15 t)))), (0, .ref (ad 0)), (1, .ref (ad (80 + t))), (2, .ref (ad (5 + p)))] := hl
  refine lv_aload_n hx hb d_LT_put_9 rfl (lv_at hl 3 rfl) ?_
  refine lv_iload_n hx hb d_LT_put_10 rfl (lv_at hl 0 rfl) ?_
  refine lv_aload_n hx hb d_LT_put_11 rfl (lv_at hl 2 rfl) ?_
  refine ct_get X h (q0 := 80 + t) (by omega) (lk_ce_t (by omega)) rfl gl_TA 6 (by decide) rfl gf_LT_72 rfl d_LT_put_12 ?_
  refine lk_goi (lk_runV (As := [.int (nI (lk_at M p n (M 15 t))), .int (M 15 t)]) (C := R_ND) X h (c_ND_hasKeyAt l D τ ad M p n (lk_at M p n (M 15 t)) (by omega) hc (by omega) hle (M 15 t)) ⟨gc_ND_hasKeyAt, gm_LT_242, gn_ND, gd_ND_hasKeyAt, by decide, by decide⟩ gi_ND_hasKeyAt gs_ND_hasKeyAt ⟨5 + p, 1, _, _, _, by rw [lk_w_get (by omega), lk_ce_n (by omega)], rfl⟩ rfl hl.1 (Nat.le_of_ble_eq_true rfl) d_LT_put_15 ⟨Nat.zero_le _, Nat.zero_le _⟩) h hA (fun r15 σ15 H locs hk9 h => ?_)
  obtain ⟨hk9, hm9⟩ := hk9
  rw [hm9] at h
  rcases hk9 with ⟨e9, hT18⟩ | ⟨e9, hT18⟩
  · rw [e9]
    have hT18 : lk_hk M p n (M 15 t) := hT18
    refine lv_if_eq (tgt := 47) hx hb d_LT_put_18 (by decide) (fun z => absurd z (by decide)) (fun _ => ?_)
    have hlt : lk_at M p n (M 15 t) < n := hT18.1
    refine lv_aload_n hx hb d_LT_put_21 rfl (lv_at hl 3 rfl) ?_
    refine ct_get X h (q0 := 5 + p) (by omega) (lk_ce_n (by omega)) rfl gl_ND 2 (by decide) rfl gf_LT_154 rfl d_LT_put_22 ?_
    refine lv_iload_n hx hb d_LT_put_25 rfl (lv_at hl 0 rfl) ?_
    refine nd_ald8 X h (q := p) (j := lk_at M p n (M 15 t)) (by omega) (by omega) d_LT_put_26 ?_
    refine lv_istore hx hb d_LT_put_27 hl (by decide) rfl (fun ls hl => ?_)
    have hl : lv_has ls 5 [(4, .int (M 8 (5 * p + (lk_at M p n (M 15 t))))), (3, .int (nI (lk_at M p n (M 15 t)))), (0, .ref (ad 0)), (1, .ref (ad (80 + t))), (2, .ref (ad (5 + p)))] := hl
    refine lv_aload_n hx hb d_LT_put_29 rfl (lv_at hl 4 rfl) ?_
    refine ct_get X h (q0 := 5 + p) (by omega) (lk_ce_n (by omega)) rfl gl_ND 2 (by decide) rfl gf_LT_154 rfl d_LT_put_30 ?_
    refine lv_iload_n hx hb d_LT_put_33 rfl (lv_at hl 1 rfl) ?_
    refine lv_aload_n hx hb d_LT_put_34 rfl (lv_at hl 3 rfl) ?_
    refine ct_get X h (q0 := 80 + t) (by omega) (lk_ce_t (by omega)) rfl gl_TA 7 (by decide) rfl gf_LT_75 rfl d_LT_put_35 ?_
    refine nd_ast8 X h (q := p) (j := lk_at M p n (M 15 t)) (v := M 17 t) (by omega) (by omega) d_LT_put_38 (fun H locs h => ?_)
    refine lv_aload_n hx hb d_LT_put_39 rfl (lv_at hl 2 rfl) ?_
    refine lv_aload_n hx hb d_LT_put_40 rfl (lv_at hl 3 rfl) ?_
    refine lv_iload hx hb d_LT_put_41 (lv_at hl 0 rfl) ?_
    refine lk_goi (lk_runV (As := [.ref (ad (80 + t)), .int (M 8 (5 * p + (lk_at M p n (M 15 t))))]) (C := R_LT) X h (c_LT_finish l D τ ad _ t ht _) ⟨gc_LT_finish, gm_LT_175, gn_LT, gd_LT_finish, by decide, by decide⟩ gi_LT_finish gs_LT_finish ⟨0, 0, _, _, _, lk_w_get (by decide), rfl⟩ rfl hl.1 (Nat.le_of_ble_eq_true rfl) d_LT_put_43 ⟨Nat.zero_le _, Nat.zero_le _⟩) h hA (fun r43 σ43 H locs hk9 h => ?_)
    rw [hk9.2] at h
    rw [hk9.1]
    exact lk_reti X h d_LT_put_46 (by rw [cc_puts, if_pos hT18]; exact ⟨rfl, rfl⟩)
  · rw [e9]
    have hT18 : ¬ lk_hk M p n (M 15 t) := hT18
    refine lv_if_eq (tgt := 47) hx hb d_LT_put_18 (by decide) (fun _ => ?_) (fun z => absurd z (by decide))
    refine lv_aload_n hx hb d_LT_put_47 rfl (lv_at hl 3 rfl) ?_
    refine ct_get X h (q0 := 5 + p) (by omega) (lk_ce_n (by omega)) rfl gl_ND 3 (by decide) rfl gf_LT_142 rfl d_LT_put_48 ?_
    refine lk_top (nI n) (hc) ?_
    refine lv_iconst (v := nI 4) hx hb d_LT_put_51 (by decide) ?_
    refine lk_cN_ge (tgt := 75) hx hb (by omega) (by omega) d_LT_put_52 (by decide) (fun h4 => ?_) (fun h4 => ?_)
    · refine lv_aload_n hx hb d_LT_put_75 rfl (lv_at hl 1 rfl) ?_
      refine lk_goq (lk_runV (As := []) (C := R_LT) X h (c_LT_leastFreeNode l D τ ad _) ⟨gc_LT_leastFreeNode, gm_LT_215, gn_LT, gd_LT_leastFreeNode, by decide, by decide⟩ gi_LT_leastFreeNode gs_LT_leastFreeNode ⟨0, 0, _, _, _, lk_w_get (by decide), rfl⟩ rfl hl.1 (Nat.le_of_ble_eq_true rfl) d_LT_put_76 ⟨Nat.zero_le _, Nat.zero_le _⟩) h hA (fun r76 σ76 H locs hk9 h => ?_)
      rw [hk9.2] at h
      by_cases hf : lk_free M < 24
      · rw [hk9.1, show lk_fn ad (lk_free M) = some (ad (5 + lk_free M)) from if_pos hf, show va_rf (some (ad (5 + lk_free M))) = .ref (ad (5 + lk_free M)) from rfl]
        refine lv_astore hx hb d_LT_put_79 hl (by decide) rfl (fun ls hl => ?_)
        have hl : lv_has ls 5 [(4, .ref (ad (5 + lk_free M))), (3, .int (nI (lk_at M p n (M 15 t)))), (0, .ref (ad 0)), (1, .ref (ad (80 + t))), (2, .ref (ad (5 + p)))] := hl
        refine lv_aload hx hb d_LT_put_81 (lv_at hl 0 rfl) ?_
        refine lv_ifnonnull (tgt := 94) hx hb d_LT_put_83 (by decide) ?_
        refine lv_aload_n hx hb d_LT_put_94 rfl (lv_at hl 4 rfl) ?_
        refine lv_iload_n hx hb d_LT_put_95 rfl (lv_at hl 1 rfl) ?_
        refine lv_aload_n hx hb d_LT_put_96 rfl (lv_at hl 3 rfl) ?_
        refine ct_get X h (q0 := 80 + t) (by omega) (lk_ce_t (by omega)) rfl gl_TA 6 (by decide) rfl gf_LT_72 rfl d_LT_put_97 ?_
        refine lv_aload_n hx hb d_LT_put_100 rfl (lv_at hl 3 rfl) ?_
        refine ct_get X h (q0 := 80 + t) (by omega) (lk_ce_t (by omega)) rfl gl_TA 7 (by decide) rfl gf_LT_75 rfl d_LT_put_101 ?_
        refine lk_gov (lk_runV (As := [.int (nI (lk_at M p n (M 15 t))), .int (M 15 t), .int (M 17 t)]) (C := R_ND) X h (c_ND_insert l D τ ad M p (lk_at M p n (M 15 t)) n (by omega) hc hle hn _ _) ⟨gc_ND_insert, gm_LT_219, gn_ND, gd_ND_insert, by decide, by decide⟩ gi_ND_insert gs_ND_insert ⟨5 + p, 1, _, _, _, by rw [lk_w_get (by omega), lk_ce_n (by omega)], rfl⟩ rfl hl.1 (Nat.le_of_ble_eq_true rfl) d_LT_put_104 ⟨Nat.zero_le _, Nat.zero_le _⟩) h hA (fun σ104 H locs hk9 h => ?_)
        rw [hk9] at h
        have hn4 : n = 4 := by omega
        refine lv_aload_n hx hb d_LT_put_107 rfl (lv_at hl 2 rfl) ?_
        refine lv_aload_n hx hb d_LT_put_108 rfl (lv_at hl 3 rfl) ?_
        refine lv_aload_n hx hb d_LT_put_109 rfl (lv_at hl 4 rfl) ?_
        refine lv_aload hx hb d_LT_put_110 (lv_at hl 0 rfl) ?_
        refine lk_gov (lk_runV (As := [.ref (ad (80 + t)), .ref (ad (5 + p)), .ref (ad (5 + lk_free M))]) (C := R_LT) X h (c_LT_split l D τ ad _ t p (lk_free M) v ht hp hv ((lk_ins_f (by decide) (by decide) (by decide)).trans hl1) (lk_ins_5.trans ((if_pos rfl).trans (by rw [hn4]))) hf (lk_free_ne hkd hf)) ⟨gc_LT_split, gm_LT_246, gn_LT, gd_LT_split, by decide, by decide⟩ gi_LT_split gs_LT_split ⟨0, 0, _, _, _, lk_w_get (by decide), rfl⟩ rfl hl.1 (Nat.le_of_ble_eq_true rfl) d_LT_put_112 ⟨Nat.zero_le _, Nat.zero_le _⟩) h hA (fun σ112 H locs hk9 h => ?_)
        rw [hk9] at h
        refine lv_iconst (v := 3) hx hb d_LT_put_115 (by decide) ?_
        exact lk_reti X h d_LT_put_116 (by rw [cc_puts, if_neg hT18, if_neg (show ¬ n < 4 by omega), if_pos hf]; exact ⟨rfl, rfl⟩)
      · rw [hk9.1, show lk_fn ad (lk_free M) = none from if_neg hf, show va_rf none = .null from rfl]
        refine lv_astoreN hx hb d_LT_put_79 hl (by decide) rfl (fun ls hl => ?_)
        have hl : lv_has ls 5 [(4, .null), (3, .int (nI (lk_at M p n (M 15 t)))), (0, .ref (ad 0)), (1, .ref (ad (80 + t))), (2, .ref (ad (5 + p)))] := hl
        refine lv_aloadN hx hb d_LT_put_81 (lv_at hl 0 rfl) ?_
        refine lv_ifnonnullN hx hb d_LT_put_83 ?_
        refine lv_aload_n hx hb d_LT_put_86 rfl (lv_at hl 2 rfl) ?_
        refine lv_aload_n hx hb d_LT_put_87 rfl (lv_at hl 3 rfl) ?_
        refine lv_bipush (v := (-2)) hx hb d_LT_put_88 (by decide) ?_
        refine lk_goi (lk_runV (As := [.ref (ad (80 + t)), .int (-2)]) (C := R_LT) X h (c_LT_finish l D τ ad _ t ht (-2)) ⟨gc_LT_finish, gm_LT_175, gn_LT, gd_LT_finish, by decide, by decide⟩ gi_LT_finish gs_LT_finish ⟨0, 0, _, _, _, lk_w_get (by decide), rfl⟩ rfl hl.1 (Nat.le_of_ble_eq_true rfl) d_LT_put_90 ⟨Nat.zero_le _, Nat.zero_le _⟩) h hA (fun r90 σ90 H locs hk9 h => ?_)
        rw [hk9.2] at h
        rw [hk9.1]
        exact lk_reti X h d_LT_put_93 (by rw [cc_puts, if_neg hT18, if_neg (show ¬ n < 4 by omega), if_neg hf]; exact ⟨rfl, rfl⟩)
    · refine lv_aload_n hx hb d_LT_put_55 rfl (lv_at hl 3 rfl) ?_
      refine lv_iload_n hx hb d_LT_put_56 rfl (lv_at hl 0 rfl) ?_
      refine lv_aload_n hx hb d_LT_put_57 rfl (lv_at hl 2 rfl) ?_
      refine ct_get X h (q0 := 80 + t) (by omega) (lk_ce_t (by omega)) rfl gl_TA 6 (by decide) rfl gf_LT_72 rfl d_LT_put_58 ?_
      refine lv_aload_n hx hb d_LT_put_61 rfl (lv_at hl 2 rfl) ?_
      refine ct_get X h (q0 := 80 + t) (by omega) (lk_ce_t (by omega)) rfl gl_TA 7 (by decide) rfl gf_LT_75 rfl d_LT_put_62 ?_
      refine lk_gov (lk_runV (As := [.int (nI (lk_at M p n (M 15 t))), .int (M 15 t), .int (M 17 t)]) (C := R_ND) X h (c_ND_insert l D τ ad M p (lk_at M p n (M 15 t)) n (by omega) hc hle hn _ _) ⟨gc_ND_insert, gm_LT_219, gn_ND, gd_ND_insert, by decide, by decide⟩ gi_ND_insert gs_ND_insert ⟨5 + p, 1, _, _, _, by rw [lk_w_get (by omega), lk_ce_n (by omega)], rfl⟩ rfl hl.1 (Nat.le_of_ble_eq_true rfl) d_LT_put_65 ⟨Nat.zero_le _, Nat.zero_le _⟩) h hA (fun σ65 H locs hk9 h => ?_)
      rw [hk9] at h
      refine lv_aload_n hx hb d_LT_put_68 rfl (lv_at hl 1 rfl) ?_
      refine lv_aload_n hx hb d_LT_put_69 rfl (lv_at hl 2 rfl) ?_
      refine lv_iconst (v := (-1)) hx hb d_LT_put_70 (by decide) ?_
      refine lk_goi (lk_runV (As := [.ref (ad (80 + t)), .int (-1)]) (C := R_LT) X h (c_LT_finish l D τ ad _ t ht (-1)) ⟨gc_LT_finish, gm_LT_175, gn_LT, gd_LT_finish, by decide, by decide⟩ gi_LT_finish gs_LT_finish ⟨0, 0, _, _, _, lk_w_get (by decide), rfl⟩ rfl hl.1 (Nat.le_of_ble_eq_true rfl) d_LT_put_71 ⟨Nat.zero_le _, Nat.zero_le _⟩) h hA (fun r71 σ71 H locs hk9 h => ?_)
      rw [hk9.2] at h
      rw [hk9.1]
      exact lk_reti X h d_LT_put_74 (by rw [cc_puts, if_neg hT18, if_pos (show n < 4 by omega)]; exact ⟨rfl, rfl⟩)
set_option maxRecDepth 20000 in
theorem c_LT_post (l : Launch) (D : va_G) (τ : Nat → ClassId) (ad : Nat → Nat) (M : lk_M) (t p n v : Nat) (ht : t < 4) (hp : p < 24) (hc : M 5 p = nI n) (hn : n ≤ 4) (hkd : M 0 p = 1) (hv : v ≤ 23) (hl1 : M 1 p = nI v) (hlt : lk_at M p n (M 15 t) < n) : lk_Ci l D τ 88 ad (lk_ce τ ad) y_LT_post b_LT_post 4 (.int) 3 65 [.ref (ad 0), .ref (ad (80 + t)), .ref (ad (5 + p))] M (fun r M1 => r = (cc_posts M t p n v).1 ∧ M1 = (cc_posts M t p n v).2) := by
  refine lk_openi (by decide +kernel) (Nat.le_of_ble_eq_true rfl) ?_
  intro pg en s m args below meth cd ls A X h hA hl
  obtain ⟨hx, hb, -⟩ := id X
  have hl : lv_has ls 4 [(0, .ref (ad 0)), (1, .ref (ad (80 + t))), (2, .ref (ad (5 + p)))] := hl
  refine lv_aload_n hx hb d_LT_post_0 rfl (lv_at hl 2 rfl) ?_
  refine ct_get X h (q0 := 5 + p) (by omega) (lk_ce_n (by omega)) rfl gl_ND 3 (by decide) rfl gf_LT_142 rfl d_LT_post_1 ?_
  refine lk_top (nI n) (hc) ?_
  refine lv_iconst (v := nI 4) hx hb d_LT_post_4 (by decide) ?_
  refine lk_cN_ge (tgt := 27) hx hb (by omega) (by omega) d_LT_post_5 (by decide) (fun h4 => ?_) (fun h4 => ?_)
  · refine lv_aload_n hx hb d_LT_post_27 rfl (lv_at hl 0 rfl) ?_
    refine lk_goq (lk_runV (As := []) (C := R_LT) X h (c_LT_leastFreeNode l D τ ad _) ⟨gc_LT_leastFreeNode, gm_LT_215, gn_LT, gd_LT_leastFreeNode, by decide, by decide⟩ gi_LT_leastFreeNode gs_LT_leastFreeNode ⟨0, 0, _, _, _, lk_w_get (by decide), rfl⟩ rfl hl.1 (Nat.le_of_ble_eq_true rfl) d_LT_post_28 ⟨Nat.zero_le _, Nat.zero_le _⟩) h hA (fun r28 σ28 H locs hk9 h => ?_)
    rw [hk9.2] at h
    by_cases hf : lk_free M < 24
    · rw [hk9.1, show lk_fn ad (lk_free M) = some (ad (5 + lk_free M)) from if_pos hf, show va_rf (some (ad (5 + lk_free M))) = .ref (ad (5 + lk_free M)) from rfl]
      refine lv_astore_n hx hb d_LT_post_31 rfl hl (by decide) rfl (fun ls hl => ?_)
      have hl : lv_has ls 4 [(3, .ref (ad (5 + lk_free M))), (0, .ref (ad 0)), (1, .ref (ad (80 + t))), (2, .ref (ad (5 + p)))] := hl
      refine lv_aload_n hx hb d_LT_post_32 rfl (lv_at hl 0 rfl) ?_
      refine lv_ifnonnull (tgt := 43) hx hb d_LT_post_33 (by decide) ?_
      refine lv_aload_n hx hb d_LT_post_43 rfl (lv_at hl 3 rfl) ?_
      refine lv_aload_n hx hb d_LT_post_44 rfl (lv_at hl 2 rfl) ?_
      refine ct_get X h (q0 := 80 + t) (by omega) (lk_ce_t (by omega)) rfl gl_TA 6 (by decide) rfl gf_LT_72 rfl d_LT_post_45 ?_
      refine lv_aload_n hx hb d_LT_post_48 rfl (lv_at hl 2 rfl) ?_
      refine ct_get X h (q0 := 80 + t) (by omega) (lk_ce_t (by omega)) rfl gl_TA 9 (by decide) rfl gf_LT_172 rfl d_LT_post_49 ?_
      refine lk_gov (lk_runV (As := [.int (M 15 t), .int (M 18 t)]) (C := R_ND) X h (c_ND_divideEntry l D τ ad M p n (by omega) hc hn (M 15 t) (M 18 t)) ⟨gc_ND_divideEntry, gm_LT_250, gn_ND, gd_ND_divideEntry, by decide, by decide⟩ gi_ND_divideEntry gs_ND_divideEntry ⟨5 + p, 1, _, _, _, by rw [lk_w_get (by omega), lk_ce_n (by omega)], rfl⟩ rfl hl.1 (Nat.le_of_ble_eq_true rfl) d_LT_post_52 ⟨Nat.zero_le _, Nat.zero_le _⟩) h hA (fun σ52 H locs hk9 h => ?_)
      rw [hk9, show cc_div M p n (M 15 t) (M 18 t) = lk_st (lk_ins M p (lk_at M p n (M 15 t)) n (M 15 t) (M 8 (5 * p + lk_at M p n (M 15 t)))) 8 (5 * p + lk_at M p n (M 15 t) + 1) (M 18 t) from if_pos hlt] at h
      have hn4 : n = 4 := by omega
      refine lv_aload_n hx hb d_LT_post_55 rfl (lv_at hl 1 rfl) ?_
      refine lv_aload_n hx hb d_LT_post_56 rfl (lv_at hl 2 rfl) ?_
      refine lv_aload_n hx hb d_LT_post_57 rfl (lv_at hl 3 rfl) ?_
      refine lv_aload_n hx hb d_LT_post_58 rfl (lv_at hl 0 rfl) ?_
      refine lk_gov (lk_runV (As := [.ref (ad (80 + t)), .ref (ad (5 + p)), .ref (ad (5 + lk_free M))]) (C := R_LT) X h (c_LT_split l D τ ad _ t p (lk_free M) v ht hp hv ((lk_st_f (by decide)).trans ((lk_ins_f (by decide) (by decide) (by decide)).trans hl1)) ((lk_st_f (by decide)).trans (lk_ins_5.trans ((if_pos rfl).trans (by rw [hn4])))) hf (lk_free_ne hkd hf)) ⟨gc_LT_split, gm_LT_246, gn_LT, gd_LT_split, by decide, by decide⟩ gi_LT_split gs_LT_split ⟨0, 0, _, _, _, lk_w_get (by decide), rfl⟩ rfl hl.1 (Nat.le_of_ble_eq_true rfl) d_LT_post_59 ⟨Nat.zero_le _, Nat.zero_le _⟩) h hA (fun σ59 H locs hk9 h => ?_)
      rw [hk9] at h
      refine lv_iconst (v := 0) hx hb d_LT_post_62 (by decide) ?_
      exact lk_reti X h d_LT_post_63 (by rw [cc_posts, if_neg (show ¬ n < 4 by omega), if_pos hf]; exact ⟨rfl, rfl⟩)
    · rw [hk9.1, show lk_fn ad (lk_free M) = none from if_neg hf, show va_rf none = .null from rfl]
      refine lv_astore_nN hx hb d_LT_post_31 rfl hl (by decide) rfl (fun ls hl => ?_)
      have hl : lv_has ls 4 [(3, .null), (0, .ref (ad 0)), (1, .ref (ad (80 + t))), (2, .ref (ad (5 + p)))] := hl
      refine lv_aload_nN hx hb d_LT_post_32 rfl (lv_at hl 0 rfl) ?_
      refine lv_ifnonnullN hx hb d_LT_post_33 ?_
      refine lv_aload_n hx hb d_LT_post_36 rfl (lv_at hl 1 rfl) ?_
      refine lv_aload_n hx hb d_LT_post_37 rfl (lv_at hl 2 rfl) ?_
      refine lv_iconst (v := (-1)) hx hb d_LT_post_38 (by decide) ?_
      refine lk_goi (lk_runV (As := [.ref (ad (80 + t)), .int (-1)]) (C := R_LT) X h (c_LT_finish l D τ ad _ t ht (-1)) ⟨gc_LT_finish, gm_LT_175, gn_LT, gd_LT_finish, by decide, by decide⟩ gi_LT_finish gs_LT_finish ⟨0, 0, _, _, _, lk_w_get (by decide), rfl⟩ rfl hl.1 (Nat.le_of_ble_eq_true rfl) d_LT_post_39 ⟨Nat.zero_le _, Nat.zero_le _⟩) h hA (fun r39 σ39 H locs hk9 h => ?_)
      rw [hk9.2] at h
      rw [hk9.1]
      exact lk_reti X h d_LT_post_42 (by rw [cc_posts, if_neg (show ¬ n < 4 by omega), if_neg hf]; exact ⟨rfl, rfl⟩)
  · refine lv_aload_n hx hb d_LT_post_8 rfl (lv_at hl 2 rfl) ?_
    refine lv_aload_n hx hb d_LT_post_9 rfl (lv_at hl 1 rfl) ?_
    refine ct_get X h (q0 := 80 + t) (by omega) (lk_ce_t (by omega)) rfl gl_TA 6 (by decide) rfl gf_LT_72 rfl d_LT_post_10 ?_
    refine lv_aload_n hx hb d_LT_post_13 rfl (lv_at hl 1 rfl) ?_
    refine ct_get X h (q0 := 80 + t) (by omega) (lk_ce_t (by omega)) rfl gl_TA 9 (by decide) rfl gf_LT_172 rfl d_LT_post_14 ?_
    refine lk_gov (lk_runV (As := [.int (M 15 t), .int (M 18 t)]) (C := R_ND) X h (c_ND_divideEntry l D τ ad M p n (by omega) hc hn (M 15 t) (M 18 t)) ⟨gc_ND_divideEntry, gm_LT_250, gn_ND, gd_ND_divideEntry, by decide, by decide⟩ gi_ND_divideEntry gs_ND_divideEntry ⟨5 + p, 1, _, _, _, by rw [lk_w_get (by omega), lk_ce_n (by omega)], rfl⟩ rfl hl.1 (Nat.le_of_ble_eq_true rfl) d_LT_post_17 ⟨Nat.zero_le _, Nat.zero_le _⟩) h hA (fun σ17 H locs hk9 h => ?_)
    rw [hk9, show cc_div M p n (M 15 t) (M 18 t) = lk_st (lk_ins M p (lk_at M p n (M 15 t)) n (M 15 t) (M 8 (5 * p + lk_at M p n (M 15 t)))) 8 (5 * p + lk_at M p n (M 15 t) + 1) (M 18 t) from if_pos hlt] at h
    refine lv_aload_n hx hb d_LT_post_20 rfl (lv_at hl 0 rfl) ?_
    refine lv_aload_n hx hb d_LT_post_21 rfl (lv_at hl 1 rfl) ?_
    refine lv_iconst (v := (-1)) hx hb d_LT_post_22 (by decide) ?_
    refine lk_goi (lk_runV (As := [.ref (ad (80 + t)), .int (-1)]) (C := R_LT) X h (c_LT_finish l D τ ad _ t ht (-1)) ⟨gc_LT_finish, gm_LT_175, gn_LT, gd_LT_finish, by decide, by decide⟩ gi_LT_finish gs_LT_finish ⟨0, 0, _, _, _, lk_w_get (by decide), rfl⟩ rfl hl.1 (Nat.le_of_ble_eq_true rfl) d_LT_post_23 ⟨Nat.zero_le _, Nat.zero_le _⟩) h hA (fun r23 σ23 H locs hk9 h => ?_)
    rw [hk9.2] at h
    rw [hk9.1]
    exact lk_reti X h d_LT_post_26 (by rw [cc_posts, if_pos (show n < 4 by omega)]; exact ⟨rfl, rfl⟩)
noncomputable def cc_removes (M : lk_M) (t p n rt nq : Nat) : Int32 × lk_M :=
  @ite _ (lk_hk M p n (M 15 t)) (Classical.propDecidable _) (2, cc_fin (if n - 1 < 2 ∧ p ≠ rt then lk_cq (lk_del M p (lk_at M p n (M 15 t)) n) (nI p) nq else lk_del M p (lk_at M p n (M 15 t)) n) t (M 8 (5 * p + lk_at M p n (M 15 t)))) (2, cc_fin M t (-1))
noncomputable def cc_shrinks (M : lk_M) (t p rt nq : Nat) : lk_M :=
  if p = rt ∧ M 4 p = -1 then cc_die (lk_st M 24 0 (M 8 (5 * p))) p t nq else lk_cq M (nI p) nq
set_option maxRecDepth 20000 in
theorem c_LT_remove (l : Launch) (D : va_G) (τ : Nat → ClassId) (ad : Nat → Nat) (M : lk_M) (t p n rt nq : Nat) (ht : t < 4) (hp : p < 24) (hc : M 5 p = nI n) (hn : n ≤ 4) (hrt : rt < 24) (hr0 : M 24 0 = nI rt) (hnq : nq ≤ 12) (hq0 : M 24 1 = nI nq) : lk_Ci l D τ 88 ad (lk_ce τ ad) y_LT_remove b_LT_remove 5 (.int) 3 65 [.ref (ad 0), .ref (ad (80 + t)), .ref (ad (5 + p))] M (fun r M1 => r = (cc_removes M t p n rt nq).1 ∧ M1 = (cc_removes M t p n rt nq).2) := by
  refine lk_openi (by decide +kernel) (Nat.le_of_ble_eq_true rfl) ?_
  intro pg en s m args below meth cd ls A X h hA hl
  obtain ⟨hx, hb, -⟩ := id X
  have hl : lv_has ls 5 [(0, .ref (ad 0)), (1, .ref (ad (80 + t))), (2, .ref (ad (5 + p)))] := hl
  have hle := lk_at_le M p n (M 15 t)
  refine lv_aload_n hx hb d_LT_remove_0 rfl (lv_at hl 2 rfl) ?_
  refine lv_aload_n hx hb d_LT_remove_1 rfl (lv_at hl 1 rfl) ?_
  refine ct_get X h (q0 := 80 + t) (by omega) (lk_ce_t (by omega)) rfl gl_TA 6 (by decide) rfl gf_LT_72 rfl d_LT_remove_2 ?_
  refine lk_goi (lk_runV (As := [.int (M 15 t)]) (C := R_ND) X h (c_ND_firstNotBelow l D τ ad M p n (by omega) hc (by omega) (M 15 t)) ⟨gc_ND_firstNotBelow, gm_LT_239, gn_ND, gd_ND_firstNotBelow, by decide, by decide⟩ gi_ND_firstNotBelow gs_ND_firstNotBelow ⟨5 + p, 1, _, _, _, by rw [lk_w_get (by omega), lk_ce_n (by omega)], rfl⟩ rfl hl.1 (Nat.le_of_ble_eq_true rfl) d_LT_remove_5 ⟨Nat.zero_le _, Nat.zero_le _⟩) h hA (fun r5 σ5 H locs hk9 h => ?_)
  rw [hk9.2] at h
  rw [hk9.1]
  refine lv_istore_n hx hb d_LT_remove_8 rfl hl (by decide) rfl (fun ls hl => ?_)
  have hl : lv_has ls 5 [(3, .int (nI (lk_at M p n (M 15 t)))), (0, .ref (ad 0)), (1, .ref (ad (80 + t))), (2, .ref (ad (5 + p)))] := hl
  refine lv_aload_n hx hb d_LT_remove_9 rfl (lv_at hl 3 rfl) ?_
  refine lv_iload_n hx hb d_LT_remove_10 rfl (lv_at hl 0 rfl) ?_
  refine lv_aload_n hx hb d_LT_remove_11 rfl (lv_at hl 2 rfl) ?_
  refine ct_get X h (q0 := 80 + t) (by omega) (lk_ce_t (by omega)) rfl gl_TA 6 (by decide) rfl gf_LT_72 rfl d_LT_remove_12 ?_
  refine lk_goi (lk_runV (As := [.int (nI (lk_at M p n (M 15 t))), .int (M 15 t)]) (C := R_ND) X h (c_ND_hasKeyAt l D τ ad M p n (lk_at M p n (M 15 t)) (by omega) hc (by omega) hle (M 15 t)) ⟨gc_ND_hasKeyAt, gm_LT_242, gn_ND, gd_ND_hasKeyAt, by decide, by decide⟩ gi_ND_hasKeyAt gs_ND_hasKeyAt ⟨5 + p, 1, _, _, _, by rw [lk_w_get (by omega), lk_ce_n (by omega)], rfl⟩ rfl hl.1 (Nat.le_of_ble_eq_true rfl) d_LT_remove_15 ⟨Nat.zero_le _, Nat.zero_le _⟩) h hA (fun r15 σ15 H locs hk9 h => ?_)
  obtain ⟨hk9, hm9⟩ := hk9
  rw [hm9] at h
  rcases hk9 with ⟨e9, hT18⟩ | ⟨e9, hT18⟩
  · rw [e9]
    have hT18 : lk_hk M p n (M 15 t) := hT18
    refine lv_if_ne (tgt := 28) hx hb d_LT_remove_18 (by decide) (fun _ => ?_) (fun z => absurd z (by decide))
    have hlt : lk_at M p n (M 15 t) < n := hT18.1
    refine lv_aload_n hx hb d_LT_remove_28 rfl (lv_at hl 3 rfl) ?_
    refine ct_get X h (q0 := 5 + p) (by omega) (lk_ce_n (by omega)) rfl gl_ND 2 (by decide) rfl gf_LT_154 rfl d_LT_remove_29 ?_
    refine lv_iload_n hx hb d_LT_remove_32 rfl (lv_at hl 0 rfl) ?_
    refine nd_ald8 X h (q := p) (j := lk_at M p n (M 15 t)) (by omega) (by omega) d_LT_remove_33 ?_
    refine lv_istore hx hb d_LT_remove_34 hl (by decide) rfl (fun ls hl => ?_)
    have hl : lv_has ls 5 [(4, .int (M 8 (5 * p + (lk_at M p n (M 15 t))))), (3, .int (nI (lk_at M p n (M 15 t)))), (0, .ref (ad 0)), (1, .ref (ad (80 + t))), (2, .ref (ad (5 + p)))] := hl
    refine lv_aload_n hx hb d_LT_remove_36 rfl (lv_at hl 4 rfl) ?_
    refine lv_iload_n hx hb d_LT_remove_37 rfl (lv_at hl 1 rfl) ?_
    refine lk_gov (lk_runV (As := [.int (nI (lk_at M p n (M 15 t)))]) (C := R_ND) X h (c_ND_delete l D τ ad M p (lk_at M p n (M 15 t)) n (by omega) hc hlt (by omega)) ⟨gc_ND_delete, gm_LT_256, gn_ND, gd_ND_delete, by decide, by decide⟩ gi_ND_delete gs_ND_delete ⟨5 + p, 1, _, _, _, by rw [lk_w_get (by omega), lk_ce_n (by omega)], rfl⟩ rfl hl.1 (Nat.le_of_ble_eq_true rfl) d_LT_remove_38 ⟨Nat.zero_le _, Nat.zero_le _⟩) h hA (fun σ38 H locs hk9 h => ?_)
    rw [hk9] at h
    refine lv_aload_n hx hb d_LT_remove_41 rfl (lv_at hl 4 rfl) ?_
    refine ct_get X h (q0 := 5 + p) (by omega) (lk_ce_n (by omega)) rfl gl_ND 3 (by decide) rfl gf_LT_142 rfl d_LT_remove_42 ?_
    refine lk_top (nI (n - 1)) (lk_del_5.trans (if_pos rfl)) ?_
    refine lv_iconst (v := nI 2) hx hb d_LT_remove_45 (by decide) ?_
    refine lk_cN_ge (tgt := 71) hx hb (by omega) (by omega) d_LT_remove_46 (by decide) (fun h1 => ?_) (fun h1 => ?_)
    · refine lv_aload_n hx hb d_LT_remove_71 rfl (lv_at hl 2 rfl) ?_
      refine lv_aload_n hx hb d_LT_remove_72 rfl (lv_at hl 3 rfl) ?_
      refine lv_iload hx hb d_LT_remove_73 (lv_at hl 0 rfl) ?_
      refine lk_goi (lk_runV (As := [.ref (ad (80 + t)), .int (M 8 (5 * p + (lk_at M p n (M 15 t))))]) (C := R_LT) X h (c_LT_finish l D τ ad _ t ht _) ⟨gc_LT_finish, gm_LT_175, gn_LT, gd_LT_finish, by decide, by decide⟩ gi_LT_finish gs_LT_finish ⟨0, 0, _, _, _, lk_w_get (by decide), rfl⟩ rfl hl.1 (Nat.le_of_ble_eq_true rfl) d_LT_remove_75 ⟨Nat.zero_le _, Nat.zero_le _⟩) h hA (fun r75 σ75 H locs hk9 h => ?_)
      rw [hk9.2] at h
      rw [hk9.1]
      exact lk_reti X h d_LT_remove_78 (by rw [cc_removes, if_pos hT18, if_neg (show ¬ (n - 1 < 2 ∧ p ≠ rt) from fun z => absurd z.1 (by omega))]; exact ⟨rfl, rfl⟩)
    · refine lv_aload_n hx hb d_LT_remove_49 rfl (lv_at hl 4 rfl) ?_
      refine ct_get X h (q0 := 5 + p) (by omega) (lk_ce_n (by omega)) rfl gl_ND 0 (by decide) rfl gf_LT_198 rfl d_LT_remove_50 ?_
      refine lk_top (nI p) (lk_num_lt (by omega)) ?_
      refine lv_aload_n hx hb d_LT_remove_53 rfl (lv_at hl 2 rfl) ?_
      refine ct_get X h (q0 := 0) (by omega) rfl rfl gl_LT 4 (by decide) rfl gf_LT_40 rfl d_LT_remove_54 ?_
      refine lk_top (nI rt) ((lk_del_f (by decide) (by decide) (by decide)).trans hr0) ?_
      refine lk_cN_eq (tgt := 71) hx hb (by omega) (by omega) d_LT_remove_57 (by decide) (fun h2 => ?_) (fun h2 => ?_)
      · refine lv_aload_n hx hb d_LT_remove_71 rfl (lv_at hl 2 rfl) ?_
        refine lv_aload_n hx hb d_LT_remove_72 rfl (lv_at hl 3 rfl) ?_
        refine lv_iload hx hb d_LT_remove_73 (lv_at hl 0 rfl) ?_
        refine lk_goi (lk_runV (As := [.ref (ad (80 + t)), .int (M 8 (5 * p + (lk_at M p n (M 15 t))))]) (C := R_LT) X h (c_LT_finish l D τ ad _ t ht _) ⟨gc_LT_finish, gm_LT_175, gn_LT, gd_LT_finish, by decide, by decide⟩ gi_LT_finish gs_LT_finish ⟨0, 0, _, _, _, lk_w_get (by decide), rfl⟩ rfl hl.1 (Nat.le_of_ble_eq_true rfl) d_LT_remove_75 ⟨Nat.zero_le _, Nat.zero_le _⟩) h hA (fun r75 σ75 H locs hk9 h => ?_)
        rw [hk9.2] at h
        rw [hk9.1]
        exact lk_reti X h d_LT_remove_78 (by rw [cc_removes, if_pos hT18, if_neg (show ¬ (n - 1 < 2 ∧ p ≠ rt) from fun z => z.2 h2)]; exact ⟨rfl, rfl⟩)
      · refine lv_aload_n hx hb d_LT_remove_60 rfl (lv_at hl 2 rfl) ?_
        refine ct_get X h (q0 := 0) (by omega) rfl rfl gl_LT 3 (by decide) rfl gf_LT_36 rfl d_LT_remove_61 ?_
        refine lv_aload_n hx hb d_LT_remove_64 rfl (lv_at hl 4 rfl) ?_
        refine ct_get X h (q0 := 5 + p) (by omega) (lk_ce_n (by omega)) rfl gl_ND 0 (by decide) rfl gf_LT_198 rfl d_LT_remove_65 ?_
        refine lk_top (nI p) (lk_num_lt (by omega)) ?_
        refine lk_gov (lk_runV (As := [.int (nI p)]) (C := R_SP) X h (c_SP_add l D τ ad _ nq ((lk_del_f (by decide) (by decide) (by decide)).trans hq0) hnq (nI p)) ⟨gc_SP_add, gm_LT_259, gn_SP, gd_SP_add, by decide, by decide⟩ gi_SP_add gs_SP_add ⟨3, 3, _, _, _, lk_w_get (by decide), rfl⟩ rfl hl.1 (Nat.le_of_ble_eq_true rfl) d_LT_remove_68 ⟨Nat.zero_le _, Nat.zero_le _⟩) h hA (fun σ68 H locs hk9 h => ?_)
        rw [hk9] at h
        refine lv_aload_n hx hb d_LT_remove_71 rfl (lv_at hl 2 rfl) ?_
        refine lv_aload_n hx hb d_LT_remove_72 rfl (lv_at hl 3 rfl) ?_
        refine lv_iload hx hb d_LT_remove_73 (lv_at hl 0 rfl) ?_
        refine lk_goi (lk_runV (As := [.ref (ad (80 + t)), .int (M 8 (5 * p + (lk_at M p n (M 15 t))))]) (C := R_LT) X h (c_LT_finish l D τ ad _ t ht _) ⟨gc_LT_finish, gm_LT_175, gn_LT, gd_LT_finish, by decide, by decide⟩ gi_LT_finish gs_LT_finish ⟨0, 0, _, _, _, lk_w_get (by decide), rfl⟩ rfl hl.1 (Nat.le_of_ble_eq_true rfl) d_LT_remove_75 ⟨Nat.zero_le _, Nat.zero_le _⟩) h hA (fun r75 σ75 H locs hk9 h => ?_)
        rw [hk9.2] at h
        rw [hk9.1]
        exact lk_reti X h d_LT_remove_78 (by rw [cc_removes, if_pos hT18, if_pos (show n - 1 < 2 ∧ p ≠ rt from ⟨by omega, h2⟩)]; exact ⟨rfl, rfl⟩)
  · rw [e9]
    have hT18 : ¬ lk_hk M p n (M 15 t) := hT18
    refine lv_if_ne (tgt := 28) hx hb d_LT_remove_18 (by decide) (fun z => absurd z (by decide)) (fun _ => ?_)
    refine lv_aload_n hx hb d_LT_remove_21 rfl (lv_at hl 1 rfl) ?_
    refine lv_aload_n hx hb d_LT_remove_22 rfl (lv_at hl 2 rfl) ?_
    refine lv_iconst (v := (-1)) hx hb d_LT_remove_23 (by decide) ?_
    refine lk_goi (lk_runV (As := [.ref (ad (80 + t)), .int (-1)]) (C := R_LT) X h (c_LT_finish l D τ ad _ t ht (-1)) ⟨gc_LT_finish, gm_LT_175, gn_LT, gd_LT_finish, by decide, by decide⟩ gi_LT_finish gs_LT_finish ⟨0, 0, _, _, _, lk_w_get (by decide), rfl⟩ rfl hl.1 (Nat.le_of_ble_eq_true rfl) d_LT_remove_24 ⟨Nat.zero_le _, Nat.zero_le _⟩) h hA (fun r24 σ24 H locs hk9 h => ?_)
    rw [hk9.2] at h
    rw [hk9.1]
    exact lk_reti X h d_LT_remove_27 (by rw [cc_removes, if_neg hT18]; exact ⟨rfl, rfl⟩)
set_option maxRecDepth 20000 in
theorem c_LT_lowerOrQueue (l : Launch) (D : va_G) (τ : Nat → ClassId) (ad : Nat → Nat) (M : lk_M) (t p rt nq : Nat) (ht : t < 4) (hp : p < 24) (hrt : rt < 24) (hr0 : M 24 0 = nI rt) (hnq : nq ≤ 12) (hq0 : M 24 1 = nI nq) : lk_Cv l D τ 88 ad (lk_ce τ ad) y_LT_lowerOrQueue b_LT_lowerOrQueue 3 2 47 [.ref (ad 0), .ref (ad (5 + p)), .ref (ad (80 + t))] M (fun M1 => M1 = cc_shrinks M t p rt nq) := by
  refine lk_openv (by decide +kernel) (Nat.le_of_ble_eq_true rfl) ?_
  intro pg en s m args below meth cd ls A X h hA hl
  obtain ⟨hx, hb, -⟩ := id X
  have hl : lv_has ls 3 [(0, .ref (ad 0)), (1, .ref (ad (5 + p))), (2, .ref (ad (80 + t)))] := hl
  refine lv_aload_n hx hb d_LT_lowerOrQueue_0 rfl (lv_at hl 1 rfl) ?_
  refine ct_get X h (q0 := 5 + p) (by omega) (lk_ce_n (by omega)) rfl gl_ND 0 (by decide) rfl gf_LT_198 rfl d_LT_lowerOrQueue_1 ?_
  refine lk_top (nI p) (lk_num_lt (by omega)) ?_
  refine lv_aload_n hx hb d_LT_lowerOrQueue_4 rfl (lv_at hl 0 rfl) ?_
  refine ct_get X h (q0 := 0) (by omega) rfl rfl gl_LT 4 (by decide) rfl gf_LT_40 rfl d_LT_lowerOrQueue_5 ?_
  refine lk_top (nI rt) (hr0) ?_
  refine lk_cN_ne (tgt := 38) hx hb (by omega) (by omega) d_LT_lowerOrQueue_8 (by decide) (fun h1 => ?_) (fun h1 => ?_)
  · refine lv_aload_n hx hb d_LT_lowerOrQueue_38 rfl (lv_at hl 0 rfl) ?_
    refine ct_get X h (q0 := 0) (by omega) rfl rfl gl_LT 3 (by decide) rfl gf_LT_36 rfl d_LT_lowerOrQueue_39 ?_
    refine lv_aload_n hx hb d_LT_lowerOrQueue_42 rfl (lv_at hl 1 rfl) ?_
    refine ct_get X h (q0 := 5 + p) (by omega) (lk_ce_n (by omega)) rfl gl_ND 0 (by decide) rfl gf_LT_198 rfl d_LT_lowerOrQueue_43 ?_
    refine lk_top (nI p) (lk_num_lt (by omega)) ?_
    refine lk_gov (lk_runV (As := [.int (nI p)]) (C := R_SP) X h (c_SP_add l D τ ad M nq hq0 hnq (nI p)) ⟨gc_SP_add, gm_LT_259, gn_SP, gd_SP_add, by decide, by decide⟩ gi_SP_add gs_SP_add ⟨3, 3, _, _, _, lk_w_get (by decide), rfl⟩ rfl hl.1 (Nat.le_of_ble_eq_true rfl) d_LT_lowerOrQueue_46 ⟨Nat.zero_le _, Nat.zero_le _⟩) h hA (fun σ46 H locs hk9 h => ?_)
    rw [hk9] at h
    exact lk_retv X h d_LT_lowerOrQueue_49 (by rw [cc_shrinks, if_neg (fun z => h1 z.1)])
  · refine lv_aload_n hx hb d_LT_lowerOrQueue_11 rfl (lv_at hl 1 rfl) ?_
    refine ct_get X h (q0 := 5 + p) (by omega) (lk_ce_n (by omega)) rfl gl_ND 8 (by decide) rfl gf_LT_139 rfl d_LT_lowerOrQueue_12 ?_
    refine lv_iconst (v := (-1)) hx hb d_LT_lowerOrQueue_15 (by decide) ?_
    refine lv_icmp_ne (tgt := 38) hx hb d_LT_lowerOrQueue_16 (by decide) (fun h2 => ?_) (fun h2 => ?_)
    · refine lv_aload_n hx hb d_LT_lowerOrQueue_38 rfl (lv_at hl 0 rfl) ?_
      refine ct_get X h (q0 := 0) (by omega) rfl rfl gl_LT 3 (by decide) rfl gf_LT_36 rfl d_LT_lowerOrQueue_39 ?_
      refine lv_aload_n hx hb d_LT_lowerOrQueue_42 rfl (lv_at hl 1 rfl) ?_
      refine ct_get X h (q0 := 5 + p) (by omega) (lk_ce_n (by omega)) rfl gl_ND 0 (by decide) rfl gf_LT_198 rfl d_LT_lowerOrQueue_43 ?_
      refine lk_top (nI p) (lk_num_lt (by omega)) ?_
      refine lk_gov (lk_runV (As := [.int (nI p)]) (C := R_SP) X h (c_SP_add l D τ ad M nq hq0 hnq (nI p)) ⟨gc_SP_add, gm_LT_259, gn_SP, gd_SP_add, by decide, by decide⟩ gi_SP_add gs_SP_add ⟨3, 3, _, _, _, lk_w_get (by decide), rfl⟩ rfl hl.1 (Nat.le_of_ble_eq_true rfl) d_LT_lowerOrQueue_46 ⟨Nat.zero_le _, Nat.zero_le _⟩) h hA (fun σ46 H locs hk9 h => ?_)
      rw [hk9] at h
      exact lk_retv X h d_LT_lowerOrQueue_49 (by rw [cc_shrinks, if_neg (fun z => h2 z.2)])
    · refine lv_aload_n hx hb d_LT_lowerOrQueue_19 rfl (lv_at hl 0 rfl) ?_
      refine lv_aload_n hx hb d_LT_lowerOrQueue_20 rfl (lv_at hl 1 rfl) ?_
      refine ct_get X h (q0 := 5 + p) (by omega) (lk_ce_n (by omega)) rfl gl_ND 2 (by decide) rfl gf_LT_154 rfl d_LT_lowerOrQueue_21 ?_
      refine lv_iconst (v := nI 0) hx hb d_LT_lowerOrQueue_24 (by decide) ?_
      refine nd_ald8 X h (q := p) (j := 0) (by omega) (by omega) d_LT_lowerOrQueue_25 ?_
      refine lt_put X h gf_LT_40 d_LT_lowerOrQueue_26 (fun H locs h => ?_)
      refine lv_aload_n hx hb d_LT_lowerOrQueue_29 rfl (lv_at hl 0 rfl) ?_
      refine lv_aload_n hx hb d_LT_lowerOrQueue_30 rfl (lv_at hl 1 rfl) ?_
      refine lv_aload_n hx hb d_LT_lowerOrQueue_31 rfl (lv_at hl 2 rfl) ?_
      refine lk_gov (lk_runV (As := [.ref (ad (5 + p)), .ref (ad (80 + t))]) (C := R_LT) X h (c_LT_die l D τ ad _ p t nq hp ht ((lk_st_p (by decide)).trans hq0) hnq) ⟨gc_LT_die, gm_LT_269, gn_LT, gd_LT_die, by decide, by decide⟩ gi_LT_die gs_LT_die ⟨0, 0, _, _, _, lk_w_get (by decide), rfl⟩ rfl hl.1 (Nat.le_of_ble_eq_true rfl) d_LT_lowerOrQueue_32 ⟨Nat.zero_le _, Nat.zero_le _⟩) h hA (fun σ32 H locs hk9 h => ?_)
      rw [hk9] at h
      refine lv_goto (tgt := 49) hx hb d_LT_lowerOrQueue_35 (by decide) ?_
      exact lk_retv X h d_LT_lowerOrQueue_49 (by rw [cc_shrinks, if_pos ⟨h1, h2⟩]; rfl)
