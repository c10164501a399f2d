theorem lk_nI_m1 {q : Nat} (h : q < 1000) : ¬ nI q = -1 := fun z => by
  have a := nI_toInt (n := q) (by omega)
  rw [z] at a
  have b : (-1 : Int32).toInt = -1 := by decide
  omega
def mm_split (M : lk_M) (t p q v : Nat) : lk_M :=
  lk_srch (lk_st (lk_st (lk_st (lk_st (lk_st (lk_st (lk_st (lk_ins (lk_ins (lk_mk M q (nI v) (M 7 (5 * p + 2)) (M 3 p) (M 4 p)) q 0 0 (M 7 (5 * p + 3)) (M 8 (5 * p + 3))) q 1 1 (M 7 (5 * p + 4)) (M 8 (5 * p + 4))) 5 p 3) 3 p (M 7 (5 * p + 2))) 4 p (nI q)) 12 t 4) 18 t (nI q)) 15 t (M 7 (5 * p + 2))) 16 t (nI (v + 1))) t (if M 19 (32 * t + (v + 1)) = -1 then M 24 0 else M 19 (32 * t + (v + 1)))
theorem lk_ins_o {σ : lk_M} {q k n i f : Nat} {a b : Int32} (hf : f = 7 ∨ f = 8) (h : i < 5 * q + k ∨ 5 * q + n < i) (hk : k ≤ n) : lk_ins σ q k n a b f i = σ f i := by
  unfold lk_ins
  rcases hf with rfl | rfl
  · simp only [lk_up_eq, lk_shR]; simp; rw [if_neg (by omega), if_neg (by omega)]
  · simp only [lk_up_eq, lk_shR]; simp; rw [if_neg (by omega), if_neg (by omega)]
theorem lk_ins_f {σ : lk_M} {q k n i f : Nat} {a b : Int32} (h5 : f ≠ 5) (h7 : f ≠ 7) (h8 : f ≠ 8) : lk_ins σ q k n a b f i = σ f i := by
  unfold lk_ins
  simp only [lk_up_eq]
  rw [if_neg h5, if_neg h8, if_neg h7]
theorem lk_ins_5 {σ : lk_M} {q k n i : Nat} {a b : Int32} : lk_ins σ q k n a b 5 i = if i = q then nI (n + 1) else σ 5 i := by
  unfold lk_ins
  simp only [lk_up_eq, upd]
  simp
theorem lk_mk_p {σ : lk_M} {q f i : Nat} {x lo hi r : Int32} (h : i ≠ q) : lk_mk σ q x lo hi r f i = σ f i := by
  unfold lk_mk
  simp only [lk_st_eq]
  simp [h]
theorem lk_mk_f {σ : lk_M} {q f i : Nat} {x lo hi r : Int32} (h : 6 < f) : lk_mk σ q x lo hi r f i = σ f i := by
  unfold lk_mk
  simp only [lk_st_eq]
  rw [if_neg (by omega), if_neg (by omega), if_neg (by omega), if_neg (by omega), if_neg (by omega), if_neg (by omega), if_neg (by omega)]
theorem lk_mk_5 {σ : lk_M} {q : Nat} {x lo hi r : Int32} : lk_mk σ q x lo hi r 5 q = nI 0 := by
  unfold lk_mk
  simp only [lk_st_eq]
  simp
  rfl
set_option maxRecDepth 20000 in
theorem c_MO_split (l : Launch) (D : va_G) (τ : Nat → ClassId) (ad : Nat → Nat) (M : lk_M) (t p q v : Nat) (ht : t < 4) (hp : p < 24) (hv : v ≤ 23) (hl1 : M 1 p = nI v) (hq : q < 24) (hf : lk_free M = q) (hpq : p ≠ q) : lk_Cv l D τ 25 ad (lk_me τ ad) y_MO_split b_MO_split 5 1 25 [.ref (ad 0), .int (nI t), .int (nI p)] M (fun M1 => M1 = mm_split M t p q v) := by
  refine lk_openv (by decide +kernel) (Nat.le_of_ble_eq_true rfl) ?_
  intro pg en s m args below meth cd ls A X h hA hl
  obtain ⟨hx, hb, -⟩ := id X
  have hl : lv_has ls 5 [(0, .ref (ad 0)), (1, .int (nI t)), (2, .int (nI p))] := hl
  refine lv_aload_n hx hb d_MO_split_0 rfl (lv_at hl 0 rfl) ?_
  refine lk_goi (lk_runV (As := []) (C := R_MO) X h (c_MO_freePage l D τ ad M) ⟨gc_MO_freePage, gm_MO_146, gn_MO, gd_MO_freePage, by decide, by decide⟩ gi_MO_freePage gs_MO_freePage ⟨0, 4, _, _, _, lk_w_get (by decide), rfl⟩ rfl hl.1 (Nat.le_of_ble_eq_true rfl) d_MO_split_1 ⟨Nat.zero_le _, Nat.zero_le _⟩) h hA (fun r1 σ1 H locs hk9 h => ?_)
  rw [hk9.2] at h
  rw [hk9.1, show lk_nn (lk_free M) 24 = nI q by rw [hf]; exact if_pos hq]
  refine lv_istore_n hx hb d_MO_split_4 rfl hl (by decide) rfl (fun ls hl => ?_)
  have hl : lv_has ls 5 [(3, .int (nI q)), (0, .ref (ad 0)), (1, .int (nI t)), (2, .int (nI p))] := hl
  refine lv_aload_n hx hb d_MO_split_5 rfl (lv_at hl 1 rfl) ?_
  refine lv_iload_n hx hb d_MO_split_6 rfl (lv_at hl 0 rfl) ?_
  refine lv_aload_n hx hb d_MO_split_7 rfl (lv_at hl 1 rfl) ?_
  refine mo_get X rfl h 2 (by decide) rfl gf_MO_13 rfl d_MO_split_8 ?_
  refine lv_iload_n hx hb d_MO_split_11 rfl (lv_at hl 3 rfl) ?_
  refine mo_ald X h 1 24 rfl (by decide) (j := p) (by omega) (by decide) d_MO_split_12 ?_
  refine lk_top (nI v) (hl1) ?_
  refine lv_aload_n hx hb d_MO_split_13 rfl (lv_at hl 1 rfl) ?_
  refine mo_get X rfl h 8 (by decide) rfl gf_MO_31 rfl d_MO_split_14 ?_
  refine lv_iconst (v := nI 5) hx hb d_MO_split_17 (by decide) ?_
  refine lv_iload_n hx hb d_MO_split_18 rfl (lv_at hl 3 rfl) ?_
  refine lk_imulN hx hb d_MO_split_19 ?_
  refine lv_iconst (v := nI 2) hx hb d_MO_split_20 (by decide) ?_
  refine lk_iaddN hx hb d_MO_split_21 ?_
  refine mo_ald X h 7 120 rfl (by decide) (j := 5 * p + 2) (by omega) (by decide) d_MO_split_22 ?_
  refine lv_aload_n hx hb d_MO_split_23 rfl (lv_at hl 1 rfl) ?_
  refine mo_get X rfl h 4 (by decide) rfl gf_MO_19 rfl d_MO_split_24 ?_
  refine lv_iload_n hx hb d_MO_split_27 rfl (lv_at hl 3 rfl) ?_
  refine mo_ald X h 3 24 rfl (by decide) (j := p) (by omega) (by decide) d_MO_split_28 ?_
  refine lv_aload_n hx hb d_MO_split_29 rfl (lv_at hl 1 rfl) ?_
  refine mo_get X rfl h 5 (by decide) rfl gf_MO_22 rfl d_MO_split_30 ?_
  refine lv_iload_n hx hb d_MO_split_33 rfl (lv_at hl 3 rfl) ?_
  refine mo_ald X h 4 24 rfl (by decide) (j := p) (by omega) (by decide) d_MO_split_34 ?_
  refine lk_gov (lk_runV (As := [.int (nI q), .int (nI v), .int (M 7 (5 * p + 2)), .int (M 3 p), .int (M 4 p)]) (C := R_MO) X h (c_MO_make l D τ ad M q hq _ _ _ _) ⟨gc_MO_make, gm_MO_150, gn_MO, gd_MO_make, by decide, by decide⟩ gi_MO_make gs_MO_make ⟨0, 4, _, _, _, lk_w_get (by decide), rfl⟩ rfl hl.1 (Nat.le_of_ble_eq_true rfl) d_MO_split_35 ⟨Nat.zero_le _, Nat.zero_le _⟩) h hA (fun σ35 H locs hk9 h => ?_)
  rw [hk9] at h
  refine lv_iconst (v := nI 3) hx hb d_MO_split_38 (by decide) ?_
  refine lv_istore hx hb d_MO_split_39 hl (by decide) rfl (fun ls hl => ?_)
  have hl : lv_has ls 5 [(4, .int (nI 3)), (3, .int (nI q)), (0, .ref (ad 0)), (1, .int (nI t)), (2, .int (nI p))] := hl
  refine lv_iload hx hb d_MO_split_41 (lv_at hl 0 rfl) ?_
  refine lv_iconst (v := nI 5) hx hb d_MO_split_43 (by decide) ?_
  refine lv_icmp_ge (tgt := 80) hx hb d_MO_split_44 (by decide) (fun z => absurd z (by decide)) (fun _ => ?_)
  refine lv_aload_n hx hb d_MO_split_47 rfl (lv_at hl 2 rfl) ?_
  refine lv_iload_n hx hb d_MO_split_48 rfl (lv_at hl 1 rfl) ?_
  refine lv_aload_n hx hb d_MO_split_49 rfl (lv_at hl 2 rfl) ?_
  refine mo_get X rfl h 8 (by decide) rfl gf_MO_31 rfl d_MO_split_50 ?_
  refine lv_iconst (v := nI 5) hx hb d_MO_split_53 (by decide) ?_
  refine lv_iload_n hx hb d_MO_split_54 rfl (lv_at hl 4 rfl) ?_
  refine lk_imulN hx hb d_MO_split_55 ?_
  refine lv_iload hx hb d_MO_split_56 (lv_at hl 0 rfl) ?_
  refine lk_iaddN hx hb d_MO_split_58 ?_
  refine mo_ald X h 7 120 rfl (by decide) (j := 5 * p + 3) (by omega) (by decide) d_MO_split_59 ?_
  refine lk_top (M 7 (5 * p + 3)) (lk_mk_f (by decide)) ?_
  refine lv_aload_n hx hb d_MO_split_60 rfl (lv_at hl 2 rfl) ?_
  refine mo_get X rfl h 9 (by decide) rfl gf_MO_34 rfl d_MO_split_61 ?_
  refine lv_iconst (v := nI 5) hx hb d_MO_split_64 (by decide) ?_
  refine lv_iload_n hx hb d_MO_split_65 rfl (lv_at hl 4 rfl) ?_
  refine lk_imulN hx hb d_MO_split_66 ?_
  refine lv_iload hx hb d_MO_split_67 (lv_at hl 0 rfl) ?_
  refine lk_iaddN hx hb d_MO_split_69 ?_
  refine mo_ald X h 8 120 rfl (by decide) (j := 5 * p + 3) (by omega) (by decide) d_MO_split_70 ?_
  refine lk_top (M 8 (5 * p + 3)) (lk_mk_f (by decide)) ?_
  refine lk_gov (lk_runV (As := [.int (nI q), .int (M 7 (5 * p + 3)), .int (M 8 (5 * p + 3))]) (C := R_MO) X h (c_MO_append l D τ ad _ q 0 hq lk_mk_5 (by omega) _ _) ⟨gc_MO_append, gm_MO_154, gn_MO, gd_MO_append, by decide, by decide⟩ gi_MO_append gs_MO_append ⟨0, 4, _, _, _, lk_w_get (by decide), rfl⟩ rfl hl.1 (Nat.le_of_ble_eq_true rfl) d_MO_split_71 ⟨Nat.zero_le _, Nat.zero_le _⟩) h hA (fun σ71 H locs hk9 h => ?_)
  rw [hk9] at h
  refine lv_iinc (k := 0) (v := nI 4) hx hb d_MO_split_74 hl rfl (by decide) (by decide) rfl (fun ls hl => ?_)
  have hl : lv_has ls 5 [(4, .int (nI 4)), (3, .int (nI q)), (0, .ref (ad 0)), (1, .int (nI t)), (2, .int (nI p))] := hl
  refine lv_goto (tgt := 41) hx hb d_MO_split_77 (by decide) ?_
  refine lv_iload hx hb d_MO_split_41 (lv_at hl 0 rfl) ?_
  refine lv_iconst (v := nI 5) hx hb d_MO_split_43 (by decide) ?_
  refine lv_icmp_ge (tgt := 80) hx hb d_MO_split_44 (by decide) (fun z => absurd z (by decide)) (fun _ => ?_)
  refine lv_aload_n hx hb d_MO_split_47 rfl (lv_at hl 2 rfl) ?_
  refine lv_iload_n hx hb d_MO_split_48 rfl (lv_at hl 1 rfl) ?_
  refine lv_aload_n hx hb d_MO_split_49 rfl (lv_at hl 2 rfl) ?_
  refine mo_get X rfl h 8 (by decide) rfl gf_MO_31 rfl d_MO_split_50 ?_
  refine lv_iconst (v := nI 5) hx hb d_MO_split_53 (by decide) ?_
  refine lv_iload_n hx hb d_MO_split_54 rfl (lv_at hl 4 rfl) ?_
  refine lk_imulN hx hb d_MO_split_55 ?_
  refine lv_iload hx hb d_MO_split_56 (lv_at hl 0 rfl) ?_
  refine lk_iaddN hx hb d_MO_split_58 ?_
  refine mo_ald X h 7 120 rfl (by decide) (j := 5 * p + 4) (by omega) (by decide) d_MO_split_59 ?_
  refine lk_top (M 7 (5 * p + 4)) ((lk_ins_o (by decide) (by omega) (by omega)).trans (lk_mk_f (by decide))) ?_
  refine lv_aload_n hx hb d_MO_split_60 rfl (lv_at hl 2 rfl) ?_
  refine mo_get X rfl h 9 (by decide) rfl gf_MO_34 rfl d_MO_split_61 ?_
  refine lv_iconst (v := nI 5) hx hb d_MO_split_64 (by decide) ?_
  refine lv_iload_n hx hb d_MO_split_65 rfl (lv_at hl 4 rfl) ?_
  refine lk_imulN hx hb d_MO_split_66 ?_
  refine lv_iload hx hb d_MO_split_67 (lv_at hl 0 rfl) ?_
  refine lk_iaddN hx hb d_MO_split_69 ?_
  refine mo_ald X h 8 120 rfl (by decide) (j := 5 * p + 4) (by omega) (by decide) d_MO_split_70 ?_
  refine lk_top (M 8 (5 * p + 4)) ((lk_ins_o (by decide) (by omega) (by omega)).trans (lk_mk_f (by decide))) ?_
  refine lk_gov (lk_runV (As := [.int (nI q), .int (M 7 (5 * p + 4)), .int (M 8 (5 * p + 4))]) (C := R_MO) X h (c_MO_append l D τ ad _ q 1 hq (lk_ins_5.trans (if_pos rfl)) (by omega) _ _) ⟨gc_MO_append, gm_MO_154, gn_MO, gd_MO_append, by decide, by decide⟩ gi_MO_append gs_MO_append ⟨0, 4, _, _, _, lk_w_get (by decide), rfl⟩ rfl hl.1 (Nat.le_of_ble_eq_true rfl) d_MO_split_71 ⟨Nat.zero_le _, Nat.zero_le _⟩) h hA (fun σ71 H locs hk9 h => ?_)
  rw [hk9] at h
  refine lv_iinc (k := 0) (v := nI 5) hx hb d_MO_split_74 hl rfl (by decide) (by decide) rfl (fun ls hl => ?_)
  have hl : lv_has ls 5 [(4, .int (nI 5)), (3, .int (nI q)), (0, .ref (ad 0)), (1, .int (nI t)), (2, .int (nI p))] := hl
  refine lv_goto (tgt := 41) hx hb d_MO_split_77 (by decide) ?_
  refine lv_iload hx hb d_MO_split_41 (lv_at hl 0 rfl) ?_
  refine lv_iconst (v := nI 5) hx hb d_MO_split_43 (by decide) ?_
  refine lv_icmp_ge (tgt := 80) hx hb d_MO_split_44 (by decide) (fun _ => ?_) (fun z => absurd z (by decide))
  refine lv_aload_n hx hb d_MO_split_80 rfl (lv_at hl 2 rfl) ?_
  refine mo_get X rfl h 6 (by decide) rfl gf_MO_25 rfl d_MO_split_81 ?_
  refine lv_iload_n hx hb d_MO_split_84 rfl (lv_at hl 4 rfl) ?_
  refine lv_iconst (v := 3) hx hb d_MO_split_85 (by decide) ?_
  refine mo_ast X h 5 24 rfl (by decide) (j := p) (v := 3) (by omega) (by decide) d_MO_split_86 (fun H locs h => ?_)
  refine lv_aload_n hx hb d_MO_split_87 rfl (lv_at hl 2 rfl) ?_
  refine mo_get X rfl h 4 (by decide) rfl gf_MO_19 rfl d_MO_split_88 ?_
  refine lv_iload_n hx hb d_MO_split_91 rfl (lv_at hl 4 rfl) ?_
  refine lv_aload_n hx hb d_MO_split_92 rfl (lv_at hl 2 rfl) ?_
  refine mo_get X rfl h 8 (by decide) rfl gf_MO_31 rfl d_MO_split_93 ?_
  refine lv_iconst (v := nI 5) hx hb d_MO_split_96 (by decide) ?_
  refine lv_iload_n hx hb d_MO_split_97 rfl (lv_at hl 4 rfl) ?_
  refine lk_imulN hx hb d_MO_split_98 ?_
  refine lv_iconst (v := nI 2) hx hb d_MO_split_99 (by decide) ?_
  refine lk_iaddN hx hb d_MO_split_100 ?_
  refine mo_ald X h 7 120 rfl (by decide) (j := 5 * p + 2) (by omega) (by decide) d_MO_split_101 ?_
  refine lk_top (M 7 (5 * p + 2)) ((lk_st_f (by decide)).trans ((lk_ins_o (by decide) (by omega) (by omega)).trans ((lk_ins_o (by decide) (by omega) (by omega)).trans (lk_mk_f (by decide))))) ?_
  refine mo_ast X h 3 24 rfl (by decide) (j := p) (v := M 7 (5 * p + 2)) (by omega) (by decide) d_MO_split_102 (fun H locs h => ?_)
  refine lv_aload_n hx hb d_MO_split_103 rfl (lv_at hl 2 rfl) ?_
  refine mo_get X rfl h 5 (by decide) rfl gf_MO_22 rfl d_MO_split_104 ?_
  refine lv_iload_n hx hb d_MO_split_107 rfl (lv_at hl 4 rfl) ?_
  refine lv_iload_n hx hb d_MO_split_108 rfl (lv_at hl 1 rfl) ?_
  refine mo_ast X h 4 24 rfl (by decide) (j := p) (v := nI q) (by omega) (by decide) d_MO_split_109 (fun H locs h => ?_)
  refine lv_aload_n hx hb d_MO_split_110 rfl (lv_at hl 2 rfl) ?_
  refine mo_get X rfl h 15 (by decide) rfl gf_MO_47 rfl d_MO_split_111 ?_
  refine lv_iload_n hx hb d_MO_split_114 rfl (lv_at hl 3 rfl) ?_
  refine lv_iconst (v := 4) hx hb d_MO_split_115 (by decide) ?_
  refine mo_ast X h 12 4 rfl (by decide) (j := t) (v := 4) (by omega) (by decide) d_MO_split_116 (fun H locs h => ?_)
  refine lv_aload_n hx hb d_MO_split_117 rfl (lv_at hl 2 rfl) ?_
  refine mo_get X rfl h 21 (by decide) rfl gf_MO_65 rfl d_MO_split_118 ?_
  refine lv_iload_n hx hb d_MO_split_121 rfl (lv_at hl 3 rfl) ?_
  refine lv_iload_n hx hb d_MO_split_122 rfl (lv_at hl 1 rfl) ?_
  refine mo_ast X h 18 4 rfl (by decide) (j := t) (v := nI q) (by omega) (by decide) d_MO_split_123 (fun H locs h => ?_)
  refine lv_aload_n hx hb d_MO_split_124 rfl (lv_at hl 2 rfl) ?_
  refine mo_get X rfl h 18 (by decide) rfl gf_MO_56 rfl d_MO_split_125 ?_
  refine lv_iload_n hx hb d_MO_split_128 rfl (lv_at hl 3 rfl) ?_
  refine lv_aload_n hx hb d_MO_split_129 rfl (lv_at hl 2 rfl) ?_
  refine mo_get X rfl h 4 (by decide) rfl gf_MO_19 rfl d_MO_split_130 ?_
  refine lv_iload_n hx hb d_MO_split_133 rfl (lv_at hl 4 rfl) ?_
  refine mo_ald X h 3 24 rfl (by decide) (j := p) (by omega) (by decide) d_MO_split_134 ?_
  refine lk_top (M 7 (5 * p + 2)) ((lk_st_f (by decide)).trans ((lk_st_f (by decide)).trans ((lk_st_f (by decide)).trans (lk_st_s)))) ?_
  refine mo_ast X h 15 4 rfl (by decide) (j := t) (v := M 7 (5 * p + 2)) (by omega) (by decide) d_MO_split_135 (fun H locs h => ?_)
  refine lv_aload_n hx hb d_MO_split_136 rfl (lv_at hl 2 rfl) ?_
  refine mo_get X rfl h 19 (by decide) rfl gf_MO_59 rfl d_MO_split_137 ?_
  refine lv_iload_n hx hb d_MO_split_140 rfl (lv_at hl 3 rfl) ?_
  refine lv_aload_n hx hb d_MO_split_141 rfl (lv_at hl 2 rfl) ?_
  refine mo_get X rfl h 2 (by decide) rfl gf_MO_13 rfl d_MO_split_142 ?_
  refine lv_iload_n hx hb d_MO_split_145 rfl (lv_at hl 4 rfl) ?_
  refine mo_ald X h 1 24 rfl (by decide) (j := p) (by omega) (by decide) d_MO_split_146 ?_
  refine lk_top (nI v) ((lk_st_f (by decide)).trans ((lk_st_f (by decide)).trans ((lk_st_f (by decide)).trans ((lk_st_f (by decide)).trans ((lk_st_f (by decide)).trans ((lk_st_f (by decide)).trans ((lk_ins_f (by decide) (by decide) (by decide)).trans ((lk_ins_f (by decide) (by decide) (by decide)).trans ((lk_mk_p hpq).trans hl1))))))))) ?_
  refine lv_iconst (v := nI 1) hx hb d_MO_split_147 (by decide) ?_
  refine lk_iaddN hx hb d_MO_split_148 ?_
  refine mo_ast X h 16 4 rfl (by decide) (j := t) (v := nI (v + 1)) (by omega) (by decide) d_MO_split_149 (fun H locs h => ?_)
  refine lv_aload_n hx hb d_MO_split_150 rfl (lv_at hl 2 rfl) ?_
  refine mo_get X rfl h 22 (by decide) rfl gf_MO_68 rfl d_MO_split_151 ?_
  refine lv_bipush (v := nI 32) hx hb d_MO_split_154 (by decide) ?_
  refine lv_iload_n hx hb d_MO_split_156 rfl (lv_at hl 3 rfl) ?_
  refine lk_imulN hx hb d_MO_split_157 ?_
  refine lv_aload_n hx hb d_MO_split_158 rfl (lv_at hl 2 rfl) ?_
  refine mo_get X rfl h 19 (by decide) rfl gf_MO_59 rfl d_MO_split_159 ?_
  refine lv_iload_n hx hb d_MO_split_162 rfl (lv_at hl 3 rfl) ?_
  refine mo_ald X h 16 4 rfl (by decide) (j := t) (by omega) (by decide) d_MO_split_163 ?_
  refine lk_top (nI (v + 1)) (lk_st_s) ?_
  refine lk_iaddN hx hb d_MO_split_164 ?_
  refine mo_ald X h 19 128 rfl (by decide) (j := 32 * t + (v + 1)) (by omega) (by decide) d_MO_split_165 ?_
  refine lk_top (M 19 (32 * t + (v + 1))) ((lk_st_f (by decide)).trans ((lk_st_f (by decide)).trans ((lk_st_f (by decide)).trans ((lk_st_f (by decide)).trans ((lk_st_f (by decide)).trans ((lk_st_f (by decide)).trans ((lk_st_f (by decide)).trans ((lk_ins_f (by decide) (by decide) (by decide)).trans ((lk_ins_f (by decide) (by decide) (by decide)).trans (lk_mk_f (by decide))))))))))) ?_
  refine lv_istore hx hb d_MO_split_166 hl (by decide) rfl (fun ls hl => ?_)
  have hl : lv_has ls 5 [(4, .int (M 19 (32 * t + (v + 1)))), (3, .int (nI q)), (0, .ref (ad 0)), (1, .int (nI t)), (2, .int (nI p))] := hl
  refine lv_aload_n hx hb d_MO_split_168 rfl (lv_at hl 2 rfl) ?_
  refine lv_iload_n hx hb d_MO_split_169 rfl (lv_at hl 3 rfl) ?_
  refine lv_iload hx hb d_MO_split_170 (lv_at hl 0 rfl) ?_
  refine lv_iconst (v := (-1)) hx hb d_MO_split_172 (by decide) ?_
  refine lv_icmp_ne (tgt := 183) hx hb d_MO_split_173 (by decide) (fun h1 => ?_) (fun h1 => ?_)
  · refine lv_iload hx hb d_MO_split_183 (lv_at hl 0 rfl) ?_
    refine lk_gov (lk_runV (As := [.int (nI t), .int (M 19 (32 * t + (v + 1)))]) (C := R_MO) X h (c_MO_search l D τ ad _ t ht _) ⟨gc_MO_search, gm_MO_111, gn_MO, gd_MO_search, by decide, by decide⟩ gi_MO_search gs_MO_search ⟨0, 4, _, _, _, lk_w_get (by decide), rfl⟩ rfl hl.1 (Nat.le_of_ble_eq_true rfl) d_MO_split_185 ⟨Nat.zero_le _, Nat.zero_le _⟩) h hA (fun σ185 H locs hk9 h => ?_)
    rw [hk9] at h
    exact lk_retv X h d_MO_split_188 (by unfold mm_split; rw [if_neg h1])
  · refine lv_aload_n hx hb d_MO_split_176 rfl (lv_at hl 2 rfl) ?_
    refine mo_get X rfl h 11 (by decide) rfl gf_MO_108 rfl d_MO_split_177 ?_
    refine lk_top (M 24 0) ((lk_st_f (by decide)).trans ((lk_st_f (by decide)).trans ((lk_st_f (by decide)).trans ((lk_st_f (by decide)).trans ((lk_st_f (by decide)).trans ((lk_st_f (by decide)).trans ((lk_st_f (by decide)).trans ((lk_ins_f (by decide) (by decide) (by decide)).trans ((lk_ins_f (by decide) (by decide) (by decide)).trans (lk_mk_f (by decide))))))))))) ?_
    refine lv_goto (tgt := 185) hx hb d_MO_split_180 (by decide) ?_
    refine lk_gov (lk_runV (As := [.int (nI t), .int (M 24 0)]) (C := R_MO) X h (c_MO_search l D τ ad _ t ht _) ⟨gc_MO_search, gm_MO_111, gn_MO, gd_MO_search, by decide, by decide⟩ gi_MO_search gs_MO_search ⟨0, 4, _, _, _, lk_w_get (by decide), rfl⟩ rfl hl.1 (Nat.le_of_ble_eq_true rfl) d_MO_split_185 ⟨Nat.zero_le _, Nat.zero_le _⟩) h hA (fun σ185 H locs hk9 h => ?_)
    rw [hk9] at h
    exact lk_retv X h d_MO_split_188 (by unfold mm_split; rw [if_pos h1])
def mm_rises (σ : lk_M) (t rt : Nat) : Int32 × lk_M :=
  if σ 12 t = 3 then (2, mm_fin σ t 0) else if σ 1 rt < σ 16 t then (if lk_free σ < 24 then (0, lk_st (lk_st (lk_ins (lk_mk σ (lk_free σ) (σ 1 rt + 1) (-1) 999 (-1)) (lk_free σ) 0 0 999 (nI rt)) 24 0 (nI (lk_free σ))) 14 t (nI (lk_free σ))) else (2, mm_fin σ t (-1))) else (0, lk_rst σ t)
set_option maxRecDepth 20000 in
theorem c_MO_rises (l : Launch) (D : va_G) (τ : Nat → ClassId) (ad : Nat → Nat) (M : lk_M) (t rt : Nat) (ht : t < 4) (hrt : rt < 24) (hr0 : M 24 0 = nI rt) : lk_Ci l D τ 25 ad (lk_me τ ad) y_MO_rises b_MO_rises 3 (.int) 2 44 [.ref (ad 0), .int (nI t)] M (fun r M1 => r = (mm_rises M t rt).1 ∧ M1 = (mm_rises M t rt).2) := by
  refine lk_openi (by decide +kernel) (Nat.le_of_ble_eq_true rfl) ?_
  intro pg en s m args below meth cd ls A X h hA hl
  obtain ⟨hx, hb, -⟩ := id X
  have hl : lv_has ls 3 [(0, .ref (ad 0)), (1, .int (nI t))] := hl
  refine lv_aload_n hx hb d_MO_rises_0 rfl (lv_at hl 0 rfl) ?_
  refine mo_get X rfl h 15 (by decide) rfl gf_MO_47 rfl d_MO_rises_1 ?_
  refine lv_iload_n hx hb d_MO_rises_4 rfl (lv_at hl 1 rfl) ?_
  refine mo_ald X h 12 4 rfl (by decide) (j := t) (by omega) (by decide) d_MO_rises_5 ?_
  refine lv_iconst (v := 3) hx hb d_MO_rises_6 (by decide) ?_
  refine lv_icmp_ne (tgt := 17) hx hb d_MO_rises_7 (by decide) (fun h1 => ?_) (fun h1 => ?_)
  · refine lv_aload_n hx hb d_MO_rises_17 rfl (lv_at hl 0 rfl) ?_
    refine mo_get X rfl h 2 (by decide) rfl gf_MO_13 rfl d_MO_rises_18 ?_
    refine lv_aload_n hx hb d_MO_rises_21 rfl (lv_at hl 0 rfl) ?_
    refine mo_get X rfl h 11 (by decide) rfl gf_MO_108 rfl d_MO_rises_22 ?_
    refine lk_top (nI rt) (hr0) ?_
    refine mo_ald X h 1 24 rfl (by decide) (j := rt) (by omega) (by decide) d_MO_rises_25 ?_
    refine lv_aload_n hx hb d_MO_rises_26 rfl (lv_at hl 0 rfl) ?_
    refine mo_get X rfl h 19 (by decide) rfl gf_MO_59 rfl d_MO_rises_27 ?_
    refine lv_iload_n hx hb d_MO_rises_30 rfl (lv_at hl 1 rfl) ?_
    refine mo_ald X h 16 4 rfl (by decide) (j := t) (by omega) (by decide) d_MO_rises_31 ?_
    refine lv_icmp_lt (tgt := 41) hx hb d_MO_rises_32 (by decide) (fun h2 => ?_) (fun h2 => ?_)
    · refine lv_aload_n hx hb d_MO_rises_41 rfl (lv_at hl 0 rfl) ?_
      refine lk_goi (lk_runV (As := []) (C := R_MO) X h (c_MO_freePage l D τ ad M) ⟨gc_MO_freePage, gm_MO_146, gn_MO, gd_MO_freePage, by decide, by decide⟩ gi_MO_freePage gs_MO_freePage ⟨0, 4, _, _, _, lk_w_get (by decide), rfl⟩ rfl hl.1 (Nat.le_of_ble_eq_true rfl) d_MO_rises_42 ⟨Nat.zero_le _, Nat.zero_le _⟩) h hA (fun r42 σ42 H locs hk9 h => ?_)
      rw [hk9.2] at h
      rw [hk9.1]
      by_cases hf : lk_free M < 24
      · rw [show lk_nn (lk_free M) 24 = nI (lk_free M) from if_pos hf]
        refine lv_istore_n hx hb d_MO_rises_45 rfl hl (by decide) rfl (fun ls hl => ?_)
        have hl : lv_has ls 3 [(2, .int (nI (lk_free M))), (0, .ref (ad 0)), (1, .int (nI t))] := hl
        refine lv_iload_n hx hb d_MO_rises_46 rfl (lv_at hl 0 rfl) ?_
        refine lv_iconst (v := (-1)) hx hb d_MO_rises_47 (by decide) ?_
        refine lv_icmp_ne (tgt := 58) hx hb d_MO_rises_48 (by decide) (fun h3 => ?_) (fun h3 => ?_)
        · refine lv_aload_n hx hb d_MO_rises_58 rfl (lv_at hl 1 rfl) ?_
          refine lv_iload_n hx hb d_MO_rises_59 rfl (lv_at hl 0 rfl) ?_
          refine lv_aload_n hx hb d_MO_rises_60 rfl (lv_at hl 1 rfl) ?_
          refine mo_get X rfl h 2 (by decide) rfl gf_MO_13 rfl d_MO_rises_61 ?_
          refine lv_aload_n hx hb d_MO_rises_64 rfl (lv_at hl 1 rfl) ?_
          refine mo_get X rfl h 11 (by decide) rfl gf_MO_108 rfl d_MO_rises_65 ?_
          refine lk_top (nI rt) (hr0) ?_
          refine mo_ald X h 1 24 rfl (by decide) (j := rt) (by omega) (by decide) d_MO_rises_68 ?_
          refine lv_iconst (v := 1) hx hb d_MO_rises_69 (by decide) ?_
          refine lv_iadd hx hb d_MO_rises_70 ?_
          refine lv_iconst (v := (-1)) hx hb d_MO_rises_71 (by decide) ?_
          refine lv_sipush (v := 999) hx hb d_MO_rises_72 (by decide) ?_
          refine lv_iconst (v := (-1)) hx hb d_MO_rises_75 (by decide) ?_
          refine lk_gov (lk_runV (As := [.int (nI (lk_free M)), .int ((M 1 rt) + 1), .int (-1), .int 999, .int (-1)]) (C := R_MO) X h (c_MO_make l D τ ad M (lk_free M) hf _ _ _ _) ⟨gc_MO_make, gm_MO_150, gn_MO, gd_MO_make, by decide, by decide⟩ gi_MO_make gs_MO_make ⟨0, 4, _, _, _, lk_w_get (by decide), rfl⟩ rfl hl.1 (Nat.le_of_ble_eq_true rfl) d_MO_rises_76 ⟨Nat.zero_le _, Nat.zero_le _⟩) h hA (fun σ76 H locs hk9 h => ?_)
          rw [hk9] at h
          refine lv_aload_n hx hb d_MO_rises_79 rfl (lv_at hl 1 rfl) ?_
          refine lv_iload_n hx hb d_MO_rises_80 rfl (lv_at hl 0 rfl) ?_
          refine lv_sipush (v := 999) hx hb d_MO_rises_81 (by decide) ?_
          refine lv_aload_n hx hb d_MO_rises_84 rfl (lv_at hl 1 rfl) ?_
          refine mo_get X rfl h 11 (by decide) rfl gf_MO_108 rfl d_MO_rises_85 ?_
          refine lk_top (nI rt) ((lk_mk_f (by decide)).trans hr0) ?_
          refine lk_gov (lk_runV (As := [.int (nI (lk_free M)), .int 999, .int (nI rt)]) (C := R_MO) X h (c_MO_append l D τ ad _ (lk_free M) 0 hf lk_mk_5 (by omega) _ _) ⟨gc_MO_append, gm_MO_154, gn_MO, gd_MO_append, by decide, by decide⟩ gi_MO_append gs_MO_append ⟨0, 4, _, _, _, lk_w_get (by decide), rfl⟩ rfl hl.1 (Nat.le_of_ble_eq_true rfl) d_MO_rises_88 ⟨Nat.zero_le _, Nat.zero_le _⟩) h hA (fun σ88 H locs hk9 h => ?_)
          rw [hk9] at h
          refine lv_aload_n hx hb d_MO_rises_91 rfl (lv_at hl 1 rfl) ?_
          refine lv_iload_n hx hb d_MO_rises_92 rfl (lv_at hl 0 rfl) ?_
          refine mo_put X rfl h 11 0 (by decide) gf_MO_108 d_MO_rises_93 (fun H locs h => ?_)
          refine lv_aload_n hx hb d_MO_rises_96 rfl (lv_at hl 1 rfl) ?_
          refine mo_get X rfl h 17 (by decide) rfl gf_MO_53 rfl d_MO_rises_97 ?_
          refine lv_iload_n hx hb d_MO_rises_100 rfl (lv_at hl 2 rfl) ?_
          refine lv_iload_n hx hb d_MO_rises_101 rfl (lv_at hl 0 rfl) ?_
          refine mo_ast X h 14 4 rfl (by decide) (j := t) (v := nI (lk_free M)) (by omega) (by decide) d_MO_rises_102 (fun H locs h => ?_)
          refine lv_iconst (v := 0) hx hb d_MO_rises_103 (by decide) ?_
          exact lk_reti X h d_MO_rises_104 (by rw [mm_rises, if_neg h1, if_pos h2, if_pos hf]; exact ⟨rfl, rfl⟩)
        · exact absurd h3 (lk_nI_m1 (by omega))
      · rw [show lk_nn (lk_free M) 24 = -1 from if_neg hf]
        refine lv_istore_n hx hb d_MO_rises_45 rfl hl (by decide) rfl (fun ls hl => ?_)
        have hl : lv_has ls 3 [(2, .int (-1)), (0, .ref (ad 0)), (1, .int (nI t))] := hl
        refine lv_iload_n hx hb d_MO_rises_46 rfl (lv_at hl 0 rfl) ?_
        refine lv_iconst (v := (-1)) hx hb d_MO_rises_47 (by decide) ?_
        refine lv_icmp_ne (tgt := 58) hx hb d_MO_rises_48 (by decide) (fun z => absurd z (by decide)) (fun _ => ?_)
        refine lv_aload_n hx hb d_MO_rises_51 rfl (lv_at hl 1 rfl) ?_
        refine lv_iload_n hx hb d_MO_rises_52 rfl (lv_at hl 2 rfl) ?_
        refine lv_iconst (v := (-1)) hx hb d_MO_rises_53 (by decide) ?_
        refine lk_goi (lk_runV (As := [.int (nI t), .int (-1)]) (C := R_MO) X h (c_MO_finish l D τ ad M t ht (-1)) ⟨gc_MO_finish, gm_MO_126, gn_MO, gd_MO_finish, by decide, by decide⟩ gi_MO_finish gs_MO_finish ⟨0, 4, _, _, _, lk_w_get (by decide), rfl⟩ rfl hl.1 (Nat.le_of_ble_eq_true rfl) d_MO_rises_54 ⟨Nat.zero_le _, Nat.zero_le _⟩) h hA (fun r54 σ54 H locs hk9 h => ?_)
        rw [hk9.2] at h
        rw [hk9.1]
        exact lk_reti X h d_MO_rises_57 (by rw [mm_rises, if_neg h1, if_pos h2, if_neg hf]; exact ⟨rfl, rfl⟩)
    · refine lv_aload_n hx hb d_MO_rises_35 rfl (lv_at hl 0 rfl) ?_
      refine lv_iload_n hx hb d_MO_rises_36 rfl (lv_at hl 1 rfl) ?_
      refine lk_goi (lk_runV (As := [.int (nI t)]) (C := R_MO) X h (c_MO_restart l D τ ad M t ht) ⟨gc_MO_restart, gm_MO_132, gn_MO, gd_MO_restart, by decide, by decide⟩ gi_MO_restart gs_MO_restart ⟨0, 4, _, _, _, lk_w_get (by decide), rfl⟩ rfl hl.1 (Nat.le_of_ble_eq_true rfl) d_MO_rises_37 ⟨Nat.zero_le _, Nat.zero_le _⟩) h hA (fun r37 σ37 H locs hk9 h => ?_)
      rw [hk9.2] at h
      rw [hk9.1]
      exact lk_reti X h d_MO_rises_40 (by rw [mm_rises, if_neg h1, if_neg h2]; exact ⟨rfl, rfl⟩)
  · refine lv_aload_n hx hb d_MO_rises_10 rfl (lv_at hl 0 rfl) ?_
    refine lv_iload_n hx hb d_MO_rises_11 rfl (lv_at hl 1 rfl) ?_
    refine lv_iconst (v := 0) hx hb d_MO_rises_12 (by decide) ?_
    refine lk_goi (lk_runV (As := [.int (nI t), .int 0]) (C := R_MO) X h (c_MO_finish l D τ ad M t ht 0) ⟨gc_MO_finish, gm_MO_126, gn_MO, gd_MO_finish, by decide, by decide⟩ gi_MO_finish gs_MO_finish ⟨0, 4, _, _, _, lk_w_get (by decide), rfl⟩ rfl hl.1 (Nat.le_of_ble_eq_true rfl) d_MO_rises_13 ⟨Nat.zero_le _, Nat.zero_le _⟩) h hA (fun r13 σ13 H locs hk9 h => ?_)
    rw [hk9.2] at h
    rw [hk9.1]
    exact lk_reti X h d_MO_rises_16 (by rw [mm_rises, if_pos h1]; exact ⟨rfl, rfl⟩)
noncomputable def mm_puts (M : lk_M) (t p n v : Nat) : Int32 × lk_M :=
  @ite _ (lk_hk M p n (M 15 t)) (Classical.propDecidable _) (2, mm_fin (lk_st M 8 (5 * p + lk_at M p n (M 15 t)) (M 17 t)) t (M 8 (5 * p + lk_at M p n (M 15 t))))
    (if n < 4 then (2, mm_fin (lk_ins M p (lk_at M p n (M 15 t)) n (M 15 t) (M 17 t)) t (-1)) else if lk_free M < 24 then (3, mm_split (lk_ins M p (lk_at M p n (M 15 t)) n (M 15 t) (M 17 t)) t p (lk_free M) v) else (2, mm_fin M t (-2)))
theorem lk_ins_free {σ : lk_M} {q k n : Nat} {a b : Int32} : lk_free (lk_ins σ q k n a b) = lk_free σ := by
  unfold lk_free
  have : lk_ins σ q k n a b 0 = σ 0 := by funext i; exact lk_ins_f (by decide) (by decide) (by decide)
  rw [this]
theorem lk_free_ne {σ : lk_M} {p : Nat} (hp : σ 0 p = 1) (hf : lk_free σ < 24) : p ≠ lk_free σ := fun e => by
  have h := lk_ff_at (σ 0) 0 24 0 hf
  have e2 : σ 0 p = 0 := by rw [e]; exact h
  rw [hp] at e2
  exact absurd e2 (by decide)
set_option maxRecDepth 20000 in
theorem c_MO_puts (l : Launch) (D : va_G) (τ : Nat → ClassId) (ad : Nat → Nat) (M : lk_M) (t p n v : Nat) (ht : t < 4) (hp : p < 24) (hc : M 5 p = nI n) (hn : n ≤ 4) (hkd : M 0 p = 1) (hv : v ≤ 23) (hl1 : M 1 p = nI v) : lk_Ci l D τ 25 ad (lk_me τ ad) y_MO_puts b_MO_puts 5 (.int) 2 49 [.ref (ad 0), .int (nI t), .int (nI p)] M (fun r M1 => r = (mm_puts M t p n v).1 ∧ M1 = (mm_puts M t p n v).2) := by
  refine lk_openi (by decide +kernel) (Nat.le_of_ble_eq_true rfl) ?_
  intro pg en s m args below meth cd ls A X h hA hl
  obtain ⟨hx, hb, -⟩ := id X
  have hl : lv_has ls 5 [(0, .ref (ad 0)), (1, .int (nI t)), (2, .int (nI p))] := hl
  have hle := lk_at_le M p n (M 15 t)
  refine lv_aload_n hx hb d_MO_puts_0 rfl (lv_at hl 0 rfl) ?_
  refine lv_iload_n hx hb d_MO_puts_1 rfl (lv_at hl 2 rfl) ?_
  refine lv_aload_n hx hb d_MO_puts_2 rfl (lv_at hl 0 rfl) ?_
  refine mo_get X rfl h 18 (by decide) rfl gf_MO_56 rfl d_MO_puts_3 ?_
  refine lv_iload_n hx hb d_MO_puts_6 rfl (lv_at hl 1 rfl) ?_
  refine mo_ald X h 15 4 rfl (by decide) (j := t) (by omega) (by decide) d_MO_puts_7 ?_
  refine lk_goi (lk_runV (As := [.int (nI p), .int (M 15 t)]) (C := R_MO) X h (c_MO_from l D τ ad M p n hp hc (by omega) (M 15 t)) ⟨gc_MO_from, gm_MO_87, gn_MO, gd_MO_from, by decide, by decide⟩ gi_MO_from gs_MO_from ⟨0, 4, _, _, _, lk_w_get (by decide), rfl⟩ rfl hl.1 (Nat.le_of_ble_eq_true rfl) d_MO_puts_8 ⟨Nat.zero_le _, Nat.zero_le _⟩) h hA (fun r8 σ8 H locs hk9 h => ?_)
  rw [hk9.2] at h
  rw [hk9.1]
  refine lv_istore_n hx hb d_MO_puts_11 rfl hl (by decide) rfl (fun ls hl => ?_)
  have hl : lv_has ls 5 [(3, .int (nI (lk_at M p n (M 15 t)))), (0, .ref (ad 0)), (1, .int (nI t)), (2, .int (nI p))] := hl
  refine lv_aload_n hx hb d_MO_puts_12 rfl (lv_at hl 1 rfl) ?_
  refine lv_iload_n hx hb d_MO_puts_13 rfl (lv_at hl 3 rfl) ?_
  refine lv_aload_n hx hb d_MO_puts_14 rfl (lv_at hl 1 rfl) ?_
  refine mo_get X rfl h 18 (by decide) rfl gf_MO_56 rfl d_MO_puts_15 ?_
  refine lv_iload_n hx hb d_MO_puts_18 rfl (lv_at hl 2 rfl) ?_
  refine mo_ald X h 15 4 rfl (by decide) (j := t) (by omega) (by decide) d_MO_puts_19 ?_
  refine lk_goi (lk_runV (As := [.int (nI p), .int (M 15 t)]) (C := R_MO) X h (c_MO_has l D τ ad M p n hp hc (by omega) (M 15 t)) ⟨gc_MO_has, gm_MO_142, gn_MO, gd_MO_has, by decide, by decide⟩ gi_MO_has gs_MO_has ⟨0, 4, _, _, _, lk_w_get (by decide), rfl⟩ rfl hl.1 (Nat.le_of_ble_eq_true rfl) d_MO_puts_20 ⟨Nat.zero_le _, Nat.zero_le _⟩) h hA (fun r20 σ20 H locs hk9 h => ?_)
  obtain ⟨hk9, hm9⟩ := hk9
  rw [hm9] at h
  rcases hk9 with ⟨e9, hT23⟩ | ⟨e9, hT23⟩
  · rw [e9]
    refine lv_if_eq (tgt := 62) hx hb d_MO_puts_23 (by decide) (fun z => absurd z (by decide)) (fun _ => ?_)
    have hlt : lk_at M p n (M 15 t) < n := hT23.1
    refine lv_aload_n hx hb d_MO_puts_26 rfl (lv_at hl 1 rfl) ?_
    refine mo_get X rfl h 9 (by decide) rfl gf_MO_34 rfl d_MO_puts_27 ?_
    refine lv_iconst (v := nI 5) hx hb d_MO_puts_30 (by decide) ?_
    refine lv_iload_n hx hb d_MO_puts_31 rfl (lv_at hl 3 rfl) ?_
    refine lk_imulN hx hb d_MO_puts_32 ?_
    refine lv_iload_n hx hb d_MO_puts_33 rfl (lv_at hl 0 rfl) ?_
    refine lk_iaddN hx hb d_MO_puts_34 ?_
    refine mo_ald X h 8 120 rfl (by decide) (j := 5 * p + lk_at M p n (M 15 t)) (by omega) (by decide) d_MO_puts_35 ?_
    refine lv_istore hx hb d_MO_puts_36 hl (by decide) rfl (fun ls hl => ?_)
    have hl : lv_has ls 5 [(4, .int (M 8 (5 * p + lk_at M p n (M 15 t)))), (3, .int (nI (lk_at M p n (M 15 t)))), (0, .ref (ad 0)), (1, .int (nI t)), (2, .int (nI p))] := hl
    refine lv_aload_n hx hb d_MO_puts_38 rfl (lv_at hl 2 rfl) ?_
    refine mo_get X rfl h 9 (by decide) rfl gf_MO_34 rfl d_MO_puts_39 ?_
    refine lv_iconst (v := nI 5) hx hb d_MO_puts_42 (by decide) ?_
    refine lv_iload_n hx hb d_MO_puts_43 rfl (lv_at hl 4 rfl) ?_
    refine lk_imulN hx hb d_MO_puts_44 ?_
    refine lv_iload_n hx hb d_MO_puts_45 rfl (lv_at hl 1 rfl) ?_
    refine lk_iaddN hx hb d_MO_puts_46 ?_
    refine lv_aload_n hx hb d_MO_puts_47 rfl (lv_at hl 2 rfl) ?_
    refine mo_get X rfl h 20 (by decide) rfl gf_MO_62 rfl d_MO_puts_48 ?_
    refine lv_iload_n hx hb d_MO_puts_51 rfl (lv_at hl 3 rfl) ?_
    refine mo_ald X h 17 4 rfl (by decide) (j := t) (by omega) (by decide) d_MO_puts_52 ?_
    refine mo_ast X h 8 120 rfl (by decide) (j := 5 * p + lk_at M p n (M 15 t)) (v := M 17 t) (by omega) (by decide) d_MO_puts_53 (fun H locs h => ?_)
    refine lv_aload_n hx hb d_MO_puts_54 rfl (lv_at hl 2 rfl) ?_
    refine lv_iload_n hx hb d_MO_puts_55 rfl (lv_at hl 3 rfl) ?_
    refine lv_iload hx hb d_MO_puts_56 (lv_at hl 0 rfl) ?_
    refine lk_goi (lk_runV (As := [.int (nI t), .int (M 8 (5 * p + lk_at M p n (M 15 t)))]) (C := R_MO) X h (c_MO_finish l D τ ad _ t ht _) ⟨gc_MO_finish, gm_MO_126, gn_MO, gd_MO_finish, by decide, by decide⟩ gi_MO_finish gs_MO_finish ⟨0, 4, _, _, _, lk_w_get (by decide), rfl⟩ rfl hl.1 (Nat.le_of_ble_eq_true rfl) d_MO_puts_58 ⟨Nat.zero_le _, Nat.zero_le _⟩) h hA (fun r58 σ58 H locs hk9 h => ?_)
    rw [hk9.2] at h
    rw [hk9.1]
    exact lk_reti X h d_MO_puts_61 (by rw [mm_puts, if_pos hT23]; exact ⟨rfl, rfl⟩)
  · rw [e9]
    refine lv_if_eq (tgt := 62) hx hb d_MO_puts_23 (by decide) (fun _ => ?_) (fun z => absurd z (by decide))
    refine lv_aload_n hx hb d_MO_puts_62 rfl (lv_at hl 1 rfl) ?_
    refine mo_get X rfl h 6 (by decide) rfl gf_MO_25 rfl d_MO_puts_63 ?_
    refine lv_iload_n hx hb d_MO_puts_66 rfl (lv_at hl 3 rfl) ?_
    refine mo_ald X h 5 24 rfl (by decide) (j := p) (by omega) (by decide) d_MO_puts_67 ?_
    refine lk_top (nI n) (hc) ?_
    refine lv_iconst (v := nI 4) hx hb d_MO_puts_68 (by decide) ?_
    refine lk_cN_ne (tgt := 88) hx hb (by omega) (by omega) d_MO_puts_69 (by decide) (fun h4 => ?_) (fun h4 => ?_)
    · refine lv_aload_n hx hb d_MO_puts_88 rfl (lv_at hl 1 rfl) ?_
      refine lv_iload_n hx hb d_MO_puts_89 rfl (lv_at hl 3 rfl) ?_
      refine lv_iload_n hx hb d_MO_puts_90 rfl (lv_at hl 0 rfl) ?_
      refine lv_aload_n hx hb d_MO_puts_91 rfl (lv_at hl 1 rfl) ?_
      refine mo_get X rfl h 18 (by decide) rfl gf_MO_56 rfl d_MO_puts_92 ?_
      refine lv_iload_n hx hb d_MO_puts_95 rfl (lv_at hl 2 rfl) ?_
      refine mo_ald X h 15 4 rfl (by decide) (j := t) (by omega) (by decide) d_MO_puts_96 ?_
      refine lv_aload_n hx hb d_MO_puts_97 rfl (lv_at hl 1 rfl) ?_
      refine mo_get X rfl h 20 (by decide) rfl gf_MO_62 rfl d_MO_puts_98 ?_
      refine lv_iload_n hx hb d_MO_puts_101 rfl (lv_at hl 2 rfl) ?_
      refine mo_ald X h 17 4 rfl (by decide) (j := t) (by omega) (by decide) d_MO_puts_102 ?_
      refine lk_gov (lk_runV (As := [.int (nI p), .int (nI (lk_at M p n (M 15 t))), .int (M 15 t), .int (M 17 t)]) (C := R_MO) X h (c_MO_insert l D τ ad M p (lk_at M p n (M 15 t)) n hp hc hle hn _ _) ⟨gc_MO_insert, gm_MO_179, gn_MO, gd_MO_insert, by decide, by decide⟩ gi_MO_insert gs_MO_insert ⟨0, 4, _, _, _, lk_w_get (by decide), rfl⟩ rfl hl.1 (Nat.le_of_ble_eq_true rfl) d_MO_puts_103 ⟨Nat.zero_le _, Nat.zero_le _⟩) h hA (fun σ103 H locs hk9 h => ?_)
      rw [hk9] at h
      refine lv_aload_n hx hb d_MO_puts_106 rfl (lv_at hl 1 rfl) ?_
      refine mo_get X rfl h 6 (by decide) rfl gf_MO_25 rfl d_MO_puts_107 ?_
      refine lv_iload_n hx hb d_MO_puts_110 rfl (lv_at hl 3 rfl) ?_
      refine mo_ald X h 5 24 rfl (by decide) (j := p) (by omega) (by decide) d_MO_puts_111 ?_
      refine lk_top (nI (n + 1)) (lk_ins_5.trans (if_pos rfl)) ?_
      refine lv_iconst (v := nI 4) hx hb d_MO_puts_112 (by decide) ?_
      refine lk_cN_gt (tgt := 123) hx hb (by omega) (by omega) d_MO_puts_113 (by decide) (fun h9 => ?_) (fun h9 => ?_)
      · omega
      · refine lv_aload_n hx hb d_MO_puts_116 rfl (lv_at hl 1 rfl) ?_
        refine lv_iload_n hx hb d_MO_puts_117 rfl (lv_at hl 2 rfl) ?_
        refine lv_iconst (v := (-1)) hx hb d_MO_puts_118 (by decide) ?_
        refine lk_goi (lk_runV (As := [.int (nI t), .int (-1)]) (C := R_MO) X h (c_MO_finish l D τ ad _ t ht _) ⟨gc_MO_finish, gm_MO_126, gn_MO, gd_MO_finish, by decide, by decide⟩ gi_MO_finish gs_MO_finish ⟨0, 4, _, _, _, lk_w_get (by decide), rfl⟩ rfl hl.1 (Nat.le_of_ble_eq_true rfl) d_MO_puts_119 ⟨Nat.zero_le _, Nat.zero_le _⟩) h hA (fun r119 σ119 H locs hk9 h => ?_)
        rw [hk9.2] at h
        rw [hk9.1]
        exact lk_reti X h d_MO_puts_122 (by rw [mm_puts, if_neg hT23, if_pos (show n < 4 by omega)]; exact ⟨rfl, rfl⟩)
    · refine lv_aload_n hx hb d_MO_puts_72 rfl (lv_at hl 1 rfl) ?_
      refine lk_goi (lk_runV (As := []) (C := R_MO) X h (c_MO_freePage l D τ ad M) ⟨gc_MO_freePage, gm_MO_146, gn_MO, gd_MO_freePage, by decide, by decide⟩ gi_MO_freePage gs_MO_freePage ⟨0, 4, _, _, _, lk_w_get (by decide), rfl⟩ rfl hl.1 (Nat.le_of_ble_eq_true rfl) d_MO_puts_73 ⟨Nat.zero_le _, Nat.zero_le _⟩) h hA (fun r73 σ73 H locs hk9 h => ?_)
      rw [hk9.2] at h
      rw [hk9.1]
      by_cases hf : lk_free M < 24
      · rw [show lk_nn (lk_free M) 24 = nI (lk_free M) from if_pos hf]
        refine lv_iconst (v := (-1)) hx hb d_MO_puts_76 (by decide) ?_
        refine lv_icmp_ne (tgt := 88) hx hb d_MO_puts_77 (by decide) (fun h5 => ?_) (fun h5 => ?_)
        · refine lv_aload_n hx hb d_MO_puts_88 rfl (lv_at hl 1 rfl) ?_
          refine lv_iload_n hx hb d_MO_puts_89 rfl (lv_at hl 3 rfl) ?_
          refine lv_iload_n hx hb d_MO_puts_90 rfl (lv_at hl 0 rfl) ?_
          refine lv_aload_n hx hb d_MO_puts_91 rfl (lv_at hl 1 rfl) ?_
          refine mo_get X rfl h 18 (by decide) rfl gf_MO_56 rfl d_MO_puts_92 ?_
          refine lv_iload_n hx hb d_MO_puts_95 rfl (lv_at hl 2 rfl) ?_
          refine mo_ald X h 15 4 rfl (by decide) (j := t) (by omega) (by decide) d_MO_puts_96 ?_
          refine lv_aload_n hx hb d_MO_puts_97 rfl (lv_at hl 1 rfl) ?_
          refine mo_get X rfl h 20 (by decide) rfl gf_MO_62 rfl d_MO_puts_98 ?_
          refine lv_iload_n hx hb d_MO_puts_101 rfl (lv_at hl 2 rfl) ?_
          refine mo_ald X h 17 4 rfl (by decide) (j := t) (by omega) (by decide) d_MO_puts_102 ?_
          refine lk_gov (lk_runV (As := [.int (nI p), .int (nI (lk_at M p n (M 15 t))), .int (M 15 t), .int (M 17 t)]) (C := R_MO) X h (c_MO_insert l D τ ad M p (lk_at M p n (M 15 t)) n hp hc hle hn _ _) ⟨gc_MO_insert, gm_MO_179, gn_MO, gd_MO_insert, by decide, by decide⟩ gi_MO_insert gs_MO_insert ⟨0, 4, _, _, _, lk_w_get (by decide), rfl⟩ rfl hl.1 (Nat.le_of_ble_eq_true rfl) d_MO_puts_103 ⟨Nat.zero_le _, Nat.zero_le _⟩) h hA (fun σ103 H locs hk9 h => ?_)
          rw [hk9] at h
          refine lv_aload_n hx hb d_MO_puts_106 rfl (lv_at hl 1 rfl) ?_
          refine mo_get X rfl h 6 (by decide) rfl gf_MO_25 rfl d_MO_puts_107 ?_
          refine lv_iload_n hx hb d_MO_puts_110 rfl (lv_at hl 3 rfl) ?_
          refine mo_ald X h 5 24 rfl (by decide) (j := p) (by omega) (by decide) d_MO_puts_111 ?_
          refine lk_top (nI (n + 1)) (lk_ins_5.trans (if_pos rfl)) ?_
          refine lv_iconst (v := nI 4) hx hb d_MO_puts_112 (by decide) ?_
          refine lk_cN_gt (tgt := 123) hx hb (by omega) (by omega) d_MO_puts_113 (by decide) (fun h9 => ?_) (fun h9 => ?_)
          · refine lv_aload_n hx hb d_MO_puts_123 rfl (lv_at hl 1 rfl) ?_
            refine lv_iload_n hx hb d_MO_puts_124 rfl (lv_at hl 2 rfl) ?_
            refine lv_iload_n hx hb d_MO_puts_125 rfl (lv_at hl 3 rfl) ?_
            refine lk_gov (lk_runV (As := [.int (nI t), .int (nI p)]) (C := R_MO) X h (c_MO_split l D τ ad _ t p (lk_free M) v ht hp hv ((lk_ins_f (by decide) (by decide) (by decide)).trans hl1) hf lk_ins_free (lk_free_ne hkd hf)) ⟨gc_MO_split, gm_MO_183, gn_MO, gd_MO_split, by decide, by decide⟩ gi_MO_split gs_MO_split ⟨0, 4, _, _, _, lk_w_get (by decide), rfl⟩ rfl hl.1 (Nat.le_of_ble_eq_true rfl) d_MO_puts_126 ⟨Nat.zero_le _, Nat.zero_le _⟩) h hA (fun σ126 H locs hk9 h => ?_)
            rw [hk9] at h
            refine lv_iconst (v := 3) hx hb d_MO_puts_129 (by decide) ?_
            exact lk_reti X h d_MO_puts_130 (by rw [mm_puts, if_neg hT23, if_neg (show ¬ n < 4 by omega), if_pos hf]; exact ⟨rfl, rfl⟩)
          · omega
        · exact absurd h5 (lk_nI_m1 (by omega))
      · rw [show lk_nn (lk_free M) 24 = -1 from if_neg hf]
        refine lv_iconst (v := (-1)) hx hb d_MO_puts_76 (by decide) ?_
        refine lv_icmp_ne (tgt := 88) hx hb d_MO_puts_77 (by decide) (fun z => absurd z (by decide)) (fun _ => ?_)
        refine lv_aload_n hx hb d_MO_puts_80 rfl (lv_at hl 1 rfl) ?_
        refine lv_iload_n hx hb d_MO_puts_81 rfl (lv_at hl 2 rfl) ?_
        refine lv_bipush (v := (-2)) hx hb d_MO_puts_82 (by decide) ?_
        refine lk_goi (lk_runV (As := [.int (nI t), .int (-2)]) (C := R_MO) X h (c_MO_finish l D τ ad M t ht (-2)) ⟨gc_MO_finish, gm_MO_126, gn_MO, gd_MO_finish, by decide, by decide⟩ gi_MO_finish gs_MO_finish ⟨0, 4, _, _, _, lk_w_get (by decide), rfl⟩ rfl hl.1 (Nat.le_of_ble_eq_true rfl) d_MO_puts_84 ⟨Nat.zero_le _, Nat.zero_le _⟩) h hA (fun r84 σ84 H locs hk9 h => ?_)
        rw [hk9.2] at h
        rw [hk9.1]
        exact lk_reti X h d_MO_puts_87 (by rw [mm_puts, if_neg hT23, if_neg (show ¬ n < 4 by omega), if_neg hf]; exact ⟨rfl, rfl⟩)
noncomputable def mm_posts (M : lk_M) (t p n v : Nat) : Int32 × lk_M :=
  if n < 4 then (2, mm_fin (lk_st (lk_ins M p (lk_at M p n (M 15 t)) n (M 15 t) (M 8 (5 * p + lk_at M p n (M 15 t)))) 8 (5 * p + lk_at M p n (M 15 t) + 1) (M 18 t)) t (-1))
  else if lk_free M < 24 then (0, mm_split (lk_st (lk_ins M p (lk_at M p n (M 15 t)) n (M 15 t) (M 8 (5 * p + lk_at M p n (M 15 t)))) 8 (5 * p + lk_at M p n (M 15 t) + 1) (M 18 t)) t p (lk_free M) v) else (2, mm_fin M t (-1))
theorem lk_st_free {σ : lk_M} {a i : Nat} {v : Int32} (h : a ≠ 0) : lk_free (lk_st σ a i v) = lk_free σ := by
  unfold lk_free
  have : lk_st σ a i v 0 = σ 0 := by funext j; exact lk_st_f (fun z => h z.symm)
  rw [this]
set_option maxRecDepth 20000 in
theorem c_MO_posts (l : Launch) (D : va_G) (τ : Nat → ClassId) (ad : Nat → Nat) (M : lk_M) (t p n v : Nat) (ht : t < 4) (hp : p < 24) (hc : M 5 p = nI n) (hn : n ≤ 4) (hkd : M 0 p = 1) (hv : v ≤ 23) (hl1 : M 1 p = nI v) (hlt : lk_at M p n (M 15 t) < n) : lk_Ci l D τ 25 ad (lk_me τ ad) y_MO_posts b_MO_posts 4 (.int) 2 49 [.ref (ad 0), .int (nI t), .int (nI p)] M (fun r M1 => r = (mm_posts M t p n v).1 ∧ M1 = (mm_posts M t p n v).2) := by
  refine lk_openi (by decide +kernel) (Nat.le_of_ble_eq_true rfl) ?_
  intro pg en s m args below meth cd ls A X h hA hl
  obtain ⟨hx, hb, -⟩ := id X
  have hl : lv_has ls 4 [(0, .ref (ad 0)), (1, .int (nI t)), (2, .int (nI p))] := hl
  refine lv_aload_n hx hb d_MO_posts_0 rfl (lv_at hl 0 rfl) ?_
  refine mo_get X rfl h 6 (by decide) rfl gf_MO_25 rfl d_MO_posts_1 ?_
  refine lv_iload_n hx hb d_MO_posts_4 rfl (lv_at hl 2 rfl) ?_
  refine mo_ald X h 5 24 rfl (by decide) (j := p) (by omega) (by decide) d_MO_posts_5 ?_
  refine lk_top (nI n) (hc) ?_
  refine lv_iconst (v := nI 4) hx hb d_MO_posts_6 (by decide) ?_
  refine lk_cN_ne (tgt := 25) hx hb (by omega) (by omega) d_MO_posts_7 (by decide) (fun h4 => ?_) (fun h4 => ?_)
  · refine lv_aload_n hx hb d_MO_posts_25 rfl (lv_at hl 0 rfl) ?_
    refine lv_iload_n hx hb d_MO_posts_26 rfl (lv_at hl 2 rfl) ?_
    refine lv_aload_n hx hb d_MO_posts_27 rfl (lv_at hl 0 rfl) ?_
    refine mo_get X rfl h 18 (by decide) rfl gf_MO_56 rfl d_MO_posts_28 ?_
    refine lv_iload_n hx hb d_MO_posts_31 rfl (lv_at hl 1 rfl) ?_
    refine mo_ald X h 15 4 rfl (by decide) (j := t) (by omega) (by decide) d_MO_posts_32 ?_
    refine lk_goi (lk_runV (As := [.int (nI p), .int (M 15 t)]) (C := R_MO) X h (c_MO_from l D τ ad M p n hp hc (by omega) (M 15 t)) ⟨gc_MO_from, gm_MO_87, gn_MO, gd_MO_from, by decide, by decide⟩ gi_MO_from gs_MO_from ⟨0, 4, _, _, _, lk_w_get (by decide), rfl⟩ rfl hl.1 (Nat.le_of_ble_eq_true rfl) d_MO_posts_33 ⟨Nat.zero_le _, Nat.zero_le _⟩) h hA (fun r33 σ33 H locs hk9 h => ?_)
    rw [hk9.2] at h
    rw [hk9.1]
    refine lv_istore_n hx hb d_MO_posts_36 rfl hl (by decide) rfl (fun ls hl => ?_)
    have hl : lv_has ls 4 [(3, .int (nI (lk_at M p n (M 15 t)))), (0, .ref (ad 0)), (1, .int (nI t)), (2, .int (nI p))] := hl
    refine lv_aload_n hx hb d_MO_posts_37 rfl (lv_at hl 1 rfl) ?_
    refine lv_iload_n hx hb d_MO_posts_38 rfl (lv_at hl 3 rfl) ?_
    refine lv_iload_n hx hb d_MO_posts_39 rfl (lv_at hl 0 rfl) ?_
    refine lv_aload_n hx hb d_MO_posts_40 rfl (lv_at hl 1 rfl) ?_
    refine mo_get X rfl h 18 (by decide) rfl gf_MO_56 rfl d_MO_posts_41 ?_
    refine lv_iload_n hx hb d_MO_posts_44 rfl (lv_at hl 2 rfl) ?_
    refine mo_ald X h 15 4 rfl (by decide) (j := t) (by omega) (by decide) d_MO_posts_45 ?_
    refine lv_aload_n hx hb d_MO_posts_46 rfl (lv_at hl 1 rfl) ?_
    refine mo_get X rfl h 9 (by decide) rfl gf_MO_34 rfl d_MO_posts_47 ?_
    refine lv_iconst (v := nI 5) hx hb d_MO_posts_50 (by decide) ?_
    refine lv_iload_n hx hb d_MO_posts_51 rfl (lv_at hl 3 rfl) ?_
    refine lk_imulN hx hb d_MO_posts_52 ?_
    refine lv_iload_n hx hb d_MO_posts_53 rfl (lv_at hl 0 rfl) ?_
    refine lk_iaddN hx hb d_MO_posts_54 ?_
    refine mo_ald X h 8 120 rfl (by decide) (j := 5 * p + lk_at M p n (M 15 t)) (by omega) (by decide) d_MO_posts_55 ?_
    refine lk_gov (lk_runV (As := [.int (nI p), .int (nI (lk_at M p n (M 15 t))), .int (M 15 t), .int (M 8 (5 * p + lk_at M p n (M 15 t)))]) (C := R_MO) X h (c_MO_insert l D τ ad M p (lk_at M p n (M 15 t)) n hp hc (Nat.le_of_lt hlt) hn _ _) ⟨gc_MO_insert, gm_MO_179, gn_MO, gd_MO_insert, by decide, by decide⟩ gi_MO_insert gs_MO_insert ⟨0, 4, _, _, _, lk_w_get (by decide), rfl⟩ rfl hl.1 (Nat.le_of_ble_eq_true rfl) d_MO_posts_56 ⟨Nat.zero_le _, Nat.zero_le _⟩) h hA (fun σ56 H locs hk9 h => ?_)
    rw [hk9] at h
    refine lv_aload_n hx hb d_MO_posts_59 rfl (lv_at hl 1 rfl) ?_
    refine mo_get X rfl h 9 (by decide) rfl gf_MO_34 rfl d_MO_posts_60 ?_
    refine lv_iconst (v := nI 5) hx hb d_MO_posts_63 (by decide) ?_
    refine lv_iload_n hx hb d_MO_posts_64 rfl (lv_at hl 3 rfl) ?_
    refine lk_imulN hx hb d_MO_posts_65 ?_
    refine lv_iload_n hx hb d_MO_posts_66 rfl (lv_at hl 0 rfl) ?_
    refine lk_iaddN hx hb d_MO_posts_67 ?_
    refine lv_iconst (v := nI 1) hx hb d_MO_posts_68 (by decide) ?_
    refine lk_iaddN hx hb d_MO_posts_69 ?_
    refine lv_aload_n hx hb d_MO_posts_70 rfl (lv_at hl 1 rfl) ?_
    refine mo_get X rfl h 21 (by decide) rfl gf_MO_65 rfl d_MO_posts_71 ?_
    refine lv_iload_n hx hb d_MO_posts_74 rfl (lv_at hl 2 rfl) ?_
    refine mo_ald X h 18 4 rfl (by decide) (j := t) (by omega) (by decide) d_MO_posts_75 ?_
    refine lk_top (M 18 t) (lk_ins_f (by decide) (by decide) (by decide)) ?_
    refine mo_ast X h 8 120 rfl (by decide) (j := 5 * p + lk_at M p n (M 15 t) + 1) (v := M 18 t) (by omega) (by decide) d_MO_posts_76 (fun H locs h => ?_)
    refine lv_aload_n hx hb d_MO_posts_77 rfl (lv_at hl 1 rfl) ?_
    refine mo_get X rfl h 6 (by decide) rfl gf_MO_25 rfl d_MO_posts_78 ?_
    refine lv_iload_n hx hb d_MO_posts_81 rfl (lv_at hl 3 rfl) ?_
    refine mo_ald X h 5 24 rfl (by decide) (j := p) (by omega) (by decide) d_MO_posts_82 ?_
    refine lk_top (nI (n + 1)) ((lk_st_f (by decide)).trans (lk_ins_5.trans (if_pos rfl))) ?_
    refine lv_iconst (v := nI 4) hx hb d_MO_posts_83 (by decide) ?_
    refine lk_cN_gt (tgt := 94) hx hb (by omega) (by omega) d_MO_posts_84 (by decide) (fun h9 => ?_) (fun h9 => ?_)
    · omega
    · refine lv_aload_n hx hb d_MO_posts_87 rfl (lv_at hl 1 rfl) ?_
      refine lv_iload_n hx hb d_MO_posts_88 rfl (lv_at hl 2 rfl) ?_
      refine lv_iconst (v := (-1)) hx hb d_MO_posts_89 (by decide) ?_
      refine lk_goi (lk_runV (As := [.int (nI t), .int (-1)]) (C := R_MO) X h (c_MO_finish l D τ ad _ t ht _) ⟨gc_MO_finish, gm_MO_126, gn_MO, gd_MO_finish, by decide, by decide⟩ gi_MO_finish gs_MO_finish ⟨0, 4, _, _, _, lk_w_get (by decide), rfl⟩ rfl hl.1 (Nat.le_of_ble_eq_true rfl) d_MO_posts_90 ⟨Nat.zero_le _, Nat.zero_le _⟩) h hA (fun r90 σ90 H locs hk9 h => ?_)
      rw [hk9.2] at h
      rw [hk9.1]
      exact lk_reti X h d_MO_posts_93 (by rw [mm_posts, if_pos (show n < 4 by omega)]; exact ⟨rfl, rfl⟩)
  · refine lv_aload_n hx hb d_MO_posts_10 rfl (lv_at hl 0 rfl) ?_
    refine lk_goi (lk_runV (As := []) (C := R_MO) X h (c_MO_freePage l D τ ad M) ⟨gc_MO_freePage, gm_MO_146, gn_MO, gd_MO_freePage, by decide, by decide⟩ gi_MO_freePage gs_MO_freePage ⟨0, 4, _, _, _, lk_w_get (by decide), rfl⟩ rfl hl.1 (Nat.le_of_ble_eq_true rfl) d_MO_posts_11 ⟨Nat.zero_le _, Nat.zero_le _⟩) h hA (fun r11 σ11 H locs hk9 h => ?_)
    rw [hk9.2] at h
    rw [hk9.1]
    by_cases hf : lk_free M < 24
    · rw [show lk_nn (lk_free M) 24 = nI (lk_free M) from if_pos hf]
      refine lv_iconst (v := (-1)) hx hb d_MO_posts_14 (by decide) ?_
      refine lv_icmp_ne (tgt := 25) hx hb d_MO_posts_15 (by decide) (fun h5 => ?_) (fun h5 => ?_)
      · refine lv_aload_n hx hb d_MO_posts_25 rfl (lv_at hl 0 rfl) ?_
        refine lv_iload_n hx hb d_MO_posts_26 rfl (lv_at hl 2 rfl) ?_
        refine lv_aload_n hx hb d_MO_posts_27 rfl (lv_at hl 0 rfl) ?_
        refine mo_get X rfl h 18 (by decide) rfl gf_MO_56 rfl d_MO_posts_28 ?_
        refine lv_iload_n hx hb d_MO_posts_31 rfl (lv_at hl 1 rfl) ?_
        refine mo_ald X h 15 4 rfl (by decide) (j := t) (by omega) (by decide) d_MO_posts_32 ?_
        refine lk_goi (lk_runV (As := [.int (nI p), .int (M 15 t)]) (C := R_MO) X h (c_MO_from l D τ ad M p n hp hc (by omega) (M 15 t)) ⟨gc_MO_from, gm_MO_87, gn_MO, gd_MO_from, by decide, by decide⟩ gi_MO_from gs_MO_from ⟨0, 4, _, _, _, lk_w_get (by decide), rfl⟩ rfl hl.1 (Nat.le_of_ble_eq_true rfl) d_MO_posts_33 ⟨Nat.zero_le _, Nat.zero_le _⟩) h hA (fun r33 σ33 H locs hk9 h => ?_)
        rw [hk9.2] at h
        rw [hk9.1]
        refine lv_istore_n hx hb d_MO_posts_36 rfl hl (by decide) rfl (fun ls hl => ?_)
        have hl : lv_has ls 4 [(3, .int (nI (lk_at M p n (M 15 t)))), (0, .ref (ad 0)), (1, .int (nI t)), (2, .int (nI p))] := hl
        refine lv_aload_n hx hb d_MO_posts_37 rfl (lv_at hl 1 rfl) ?_
        refine lv_iload_n hx hb d_MO_posts_38 rfl (lv_at hl 3 rfl) ?_
        refine lv_iload_n hx hb d_MO_posts_39 rfl (lv_at hl 0 rfl) ?_
        refine lv_aload_n hx hb d_MO_posts_40 rfl (lv_at hl 1 rfl) ?_
        refine mo_get X rfl h 18 (by decide) rfl gf_MO_56 rfl d_MO_posts_41 ?_
        refine lv_iload_n hx hb d_MO_posts_44 rfl (lv_at hl 2 rfl) ?_
        refine mo_ald X h 15 4 rfl (by decide) (j := t) (by omega) (by decide) d_MO_posts_45 ?_
        refine lv_aload_n hx hb d_MO_posts_46 rfl (lv_at hl 1 rfl) ?_
        refine mo_get X rfl h 9 (by decide) rfl gf_MO_34 rfl d_MO_posts_47 ?_
        refine lv_iconst (v := nI 5) hx hb d_MO_posts_50 (by decide) ?_
        refine lv_iload_n hx hb d_MO_posts_51 rfl (lv_at hl 3 rfl) ?_
        refine lk_imulN hx hb d_MO_posts_52 ?_
        refine lv_iload_n hx hb d_MO_posts_53 rfl (lv_at hl 0 rfl) ?_
        refine lk_iaddN hx hb d_MO_posts_54 ?_
        refine mo_ald X h 8 120 rfl (by decide) (j := 5 * p + lk_at M p n (M 15 t)) (by omega) (by decide) d_MO_posts_55 ?_
        refine lk_gov (lk_runV (As := [.int (nI p), .int (nI (lk_at M p n (M 15 t))), .int (M 15 t), .int (M 8 (5 * p + lk_at M p n (M 15 t)))]) (C := R_MO) X h (c_MO_insert l D τ ad M p (lk_at M p n (M 15 t)) n hp hc (Nat.le_of_lt hlt) hn _ _) ⟨gc_MO_insert, gm_MO_179, gn_MO, gd_MO_insert, by decide, by decide⟩ gi_MO_insert gs_MO_insert ⟨0, 4, _, _, _, lk_w_get (by decide), rfl⟩ rfl hl.1 (Nat.le_of_ble_eq_true rfl) d_MO_posts_56 ⟨Nat.zero_le _, Nat.zero_le _⟩) h hA (fun σ56 H locs hk9 h => ?_)
        rw [hk9] at h
        refine lv_aload_n hx hb d_MO_posts_59 rfl (lv_at hl 1 rfl) ?_
        refine mo_get X rfl h 9 (by decide) rfl gf_MO_34 rfl d_MO_posts_60 ?_
        refine lv_iconst (v := nI 5) hx hb d_MO_posts_63 (by decide) ?_
        refine lv_iload_n hx hb d_MO_posts_64 rfl (lv_at hl 3 rfl) ?_
        refine lk_imulN hx hb d_MO_posts_65 ?_
        refine lv_iload_n hx hb d_MO_posts_66 rfl (lv_at hl 0 rfl) ?_
        refine lk_iaddN hx hb d_MO_posts_67 ?_
        refine lv_iconst (v := nI 1) hx hb d_MO_posts_68 (by decide) ?_
        refine lk_iaddN hx hb d_MO_posts_69 ?_
        refine lv_aload_n hx hb d_MO_posts_70 rfl (lv_at hl 1 rfl) ?_
        refine mo_get X rfl h 21 (by decide) rfl gf_MO_65 rfl d_MO_posts_71 ?_
        refine lv_iload_n hx hb d_MO_posts_74 rfl (lv_at hl 2 rfl) ?_
        refine mo_ald X h 18 4 rfl (by decide) (j := t) (by omega) (by decide) d_MO_posts_75 ?_
        refine lk_top (M 18 t) (lk_ins_f (by decide) (by decide) (by decide)) ?_
        refine mo_ast X h 8 120 rfl (by decide) (j := 5 * p + lk_at M p n (M 15 t) + 1) (v := M 18 t) (by omega) (by decide) d_MO_posts_76 (fun H locs h => ?_)
        refine lv_aload_n hx hb d_MO_posts_77 rfl (lv_at hl 1 rfl) ?_
        refine mo_get X rfl h 6 (by decide) rfl gf_MO_25 rfl d_MO_posts_78 ?_
        refine lv_iload_n hx hb d_MO_posts_81 rfl (lv_at hl 3 rfl) ?_
        refine mo_ald X h 5 24 rfl (by decide) (j := p) (by omega) (by decide) d_MO_posts_82 ?_
        refine lk_top (nI (n + 1)) ((lk_st_f (by decide)).trans (lk_ins_5.trans (if_pos rfl))) ?_
        refine lv_iconst (v := nI 4) hx hb d_MO_posts_83 (by decide) ?_
        refine lk_cN_gt (tgt := 94) hx hb (by omega) (by omega) d_MO_posts_84 (by decide) (fun h9 => ?_) (fun h9 => ?_)
        · refine lv_aload_n hx hb d_MO_posts_94 rfl (lv_at hl 1 rfl) ?_
          refine lv_iload_n hx hb d_MO_posts_95 rfl (lv_at hl 2 rfl) ?_
          refine lv_iload_n hx hb d_MO_posts_96 rfl (lv_at hl 3 rfl) ?_
          refine lk_gov (lk_runV (As := [.int (nI t), .int (nI p)]) (C := R_MO) X h (c_MO_split l D τ ad _ t p (lk_free M) v ht hp hv ((lk_st_f (by decide)).trans ((lk_ins_f (by decide) (by decide) (by decide)).trans hl1)) hf ((lk_st_free (by decide)).trans lk_ins_free) (lk_free_ne hkd hf)) ⟨gc_MO_split, gm_MO_183, gn_MO, gd_MO_split, by decide, by decide⟩ gi_MO_split gs_MO_split ⟨0, 4, _, _, _, lk_w_get (by decide), rfl⟩ rfl hl.1 (Nat.le_of_ble_eq_true rfl) d_MO_posts_97 ⟨Nat.zero_le _, Nat.zero_le _⟩) h hA (fun σ97 H locs hk9 h => ?_)
          rw [hk9] at h
          refine lv_iconst (v := 0) hx hb d_MO_posts_100 (by decide) ?_
          exact lk_reti X h d_MO_posts_101 (by rw [mm_posts, if_neg (show ¬ n < 4 by omega), if_pos hf]; exact ⟨rfl, rfl⟩)
        · omega
      · exact absurd h5 (lk_nI_m1 (by omega))
    · rw [show lk_nn (lk_free M) 24 = -1 from if_neg hf]
      refine lv_iconst (v := (-1)) hx hb d_MO_posts_14 (by decide) ?_
      refine lv_icmp_ne (tgt := 25) hx hb d_MO_posts_15 (by decide) (fun z => absurd z (by decide)) (fun _ => ?_)
      refine lv_aload_n hx hb d_MO_posts_18 rfl (lv_at hl 0 rfl) ?_
      refine lv_iload_n hx hb d_MO_posts_19 rfl (lv_at hl 1 rfl) ?_
      refine lv_iconst (v := (-1)) hx hb d_MO_posts_20 (by decide) ?_
      refine lk_goi (lk_runV (As := [.int (nI t), .int (-1)]) (C := R_MO) X h (c_MO_finish l D τ ad M t ht (-1)) ⟨gc_MO_finish, gm_MO_126, gn_MO, gd_MO_finish, by decide, by decide⟩ gi_MO_finish gs_MO_finish ⟨0, 4, _, _, _, lk_w_get (by decide), rfl⟩ rfl hl.1 (Nat.le_of_ble_eq_true rfl) d_MO_posts_21 ⟨Nat.zero_le _, Nat.zero_le _⟩) h hA (fun r21 σ21 H locs hk9 h => ?_)
      rw [hk9.2] at h
      rw [hk9.1]
      exact lk_reti X h d_MO_posts_24 (by rw [mm_posts, if_neg (show ¬ n < 4 by omega), if_neg hf]; exact ⟨rfl, rfl⟩)
