noncomputable def mm_hold0 (M : lk_M) (t p n v rt nq x a b na nb : Nat) : Int32 × lk_M :=
  @ite _ (lk_lost M t p) (Classical.propDecidable _) (0, lk_rst M t) (if M 3 p < M 15 t then (0, lk_st (lk_rgt M t p) 13 t 1) else if M 12 t = 1 then mm_puts M t p n v else if M 12 t = 4 then mm_posts M t p n v else if M 12 t = 2 then mm_removes M t p n rt nq else mm_joins M t p n x a b na nb rt nq (lk_ch M p n (nI x)) (lk_ji (lk_ch M p n (nI x)) n))
noncomputable def mm_holds (M : lk_M) (t p n v rt nq x a b na nb : Nat) : Int32 × lk_M :=
  if (mm_hold0 M t p n v rt nq x a b na nb).1 = 1 then mm_hold0 M t p n v rt nq x a b na nb else ((mm_hold0 M t p n v rt nq x a b na nb).1, lk_st (mm_hold0 M t p n v rt nq x a b na nb).2 6 p (-1))
/-- what a page must have that a task holds -/
def lk_hpre (M : lk_M) (t p n v rt nq x a b na nb : Nat) : Prop :=
  t < 4 ∧ p < 24 ∧ M 14 t = nI p ∧ rt < 24 ∧ M 24 0 = nI rt ∧ nq ≤ 12 ∧ M 24 1 = nI nq ∧ (¬ lk_lost M t p → M 5 p = nI n ∧ n ≤ 4 ∧ M 1 p = nI v ∧ v ≤ 23 ∧ M 0 p = 1) ∧
  (¬ lk_lost M t p → ¬ M 3 p < M 15 t → M 12 t = 4 → lk_at M p n (M 15 t) < n) ∧
  (¬ lk_lost M t p → ¬ M 3 p < M 15 t → M 12 t ≠ 1 → M 12 t ≠ 4 → M 12 t ≠ 2 → x < 24 ∧ M 18 t = nI x ∧ 1 ≤ n ∧ (lk_ch M p n (nI x) < n → 2 ≤ n → M 8 (5 * p + lk_ji (lk_ch M p n (nI x)) n) = nI a ∧ M 8 (5 * p + lk_ji (lk_ch M p n (nI x)) n + 1) = nI b ∧ a < 24 ∧ b < 24 ∧ a ≠ b ∧ a ≠ p ∧ b ≠ p ∧ M 5 a = nI na ∧ M 5 b = nI nb ∧ na ≤ 4 ∧ nb ≤ 4))
/-- .. and what its step wants -/
def lk_spre (M : lk_M) (t p n v rt nq x a b na nb : Nat) : Prop :=
  t < 4 ∧ p < 24 ∧ M 14 t = nI p ∧ rt < 24 ∧ M 24 0 = nI rt ∧ nq ≤ 12 ∧ M 24 1 = nI nq ∧ (¬ lk_lost M t p → M 5 p = nI n ∧ n ≤ 4 ∧ M 1 p = nI v ∧ v ≤ 23 ∧ M 0 p = 1) ∧ (¬ M 13 t = 0 → ¬ M 13 t = 1 → lk_hpre M t p n v rt nq x a b na nb)
set_option maxRecDepth 20000 in
theorem c_MO_holds (l : Launch) (D : va_G) (τ : Nat → ClassId) (ad : Nat → Nat) (M : lk_M) (t p n v rt nq x a b na nb : Nat) (hh : lk_hpre M t p n v rt nq x a b na nb) : lk_Ci l D τ 25 ad (lk_me τ ad) y_MO_holds b_MO_holds 5 (.int) 4 94 [.ref (ad 0), .int (nI t)] M (fun r M1 => r = (mm_holds M t p n v rt nq x a b na nb).1 ∧ M1 = (mm_holds M t p n v rt nq x a b na nb).2) := by
  refine lk_openi (by decide +kernel) (Nat.le_of_ble_eq_true rfl) ?_
  intro pg en s m args below meth cd ls A X h hA hl
  obtain ⟨hx, hb, -⟩ := id X
  have hl : lv_has ls 5 [(0, .ref (ad 0)), (1, .int (nI t))] := hl
  obtain ⟨ht, hp, hpl, hrt, hr0, hnq, hq0, hok, hpo, hjo⟩ := hh
  refine lv_aload_n hx hb d_MO_holds_0 rfl (lv_at hl 0 rfl) ?_
  refine mo_get X rfl h 17 (by decide) rfl gf_MO_53 rfl d_MO_holds_1 ?_
  refine lv_iload_n hx hb d_MO_holds_4 rfl (lv_at hl 1 rfl) ?_
  refine mo_ald X h 14 4 rfl (by decide) (j := t) (by omega) (by decide) d_MO_holds_5 ?_
  refine lk_top (nI p) (hpl) ?_
  refine lv_istore_n hx hb d_MO_holds_6 rfl hl (by decide) rfl (fun ls hl => ?_)
  have hl : lv_has ls 5 [(2, .int (nI p)), (0, .ref (ad 0)), (1, .int (nI t))] := hl
  refine lv_iconst (v := 0) hx hb d_MO_holds_7 (by decide) ?_
  refine lv_istore_n hx hb d_MO_holds_8 rfl hl (by decide) rfl (fun ls hl => ?_)
  have hl : lv_has ls 5 [(3, .int 0), (2, .int (nI p)), (0, .ref (ad 0)), (1, .int (nI t))] := hl
  refine lv_aload_n hx hb d_MO_holds_9 rfl (lv_at hl 2 rfl) ?_
  refine lv_iload_n hx hb d_MO_holds_10 rfl (lv_at hl 3 rfl) ?_
  refine lk_goi (lk_runV (As := [.int (nI t)]) (C := R_MO) X h (c_MO_isLost l D τ ad M t p ht hp hpl) ⟨gc_MO_isLost, gm_MO_129, gn_MO, gd_MO_isLost, by decide, by decide⟩ gi_MO_isLost gs_MO_isLost ⟨0, 4, _, _, _, lk_w_get (by decide), rfl⟩ rfl hl.1 (Nat.le_of_ble_eq_true rfl) d_MO_holds_11 ⟨Nat.zero_le _, Nat.zero_le _⟩) h hA (fun r11 σ11 H locs hk9 h => ?_)
  obtain ⟨hk9, hm9⟩ := hk9
  rw [hm9] at h
  rcases hk9 with ⟨e9, hT14⟩ | ⟨e9, hT14⟩
  · rw [e9]
    refine lv_if_eq (tgt := 26) hx hb d_MO_holds_14 (by decide) (fun z => absurd z (by decide)) (fun _ => ?_)
    refine lv_aload_n hx hb d_MO_holds_17 rfl (lv_at hl 2 rfl) ?_
    refine lv_iload_n hx hb d_MO_holds_18 rfl (lv_at hl 3 rfl) ?_
    refine lk_goi (lk_runV (As := [.int (nI t)]) (C := R_MO) X h (c_MO_restart l D τ ad M t ht) ⟨gc_MO_restart, gm_MO_132, gn_MO, gd_MO_restart, by decide, by decide⟩ gi_MO_restart gs_MO_restart ⟨0, 4, _, _, _, lk_w_get (by decide), rfl⟩ rfl hl.1 (Nat.le_of_ble_eq_true rfl) d_MO_holds_19 ⟨Nat.zero_le _, Nat.zero_le _⟩) h hA (fun r19 σ19 H locs hk9 h => ?_)
    rw [hk9.2] at h
    rw [hk9.1]
    have e0 : mm_hold0 M t p n v rt nq x a b na nb = (0, lk_rst M t) := by rw [mm_hold0, if_pos hT14]
    refine lv_istore_n hx hb d_MO_holds_22 rfl hl (by decide) rfl (fun ls hl => ?_)
    have hl : lv_has ls 5 [(3, .int 0), (2, .int (nI p)), (0, .ref (ad 0)), (1, .int (nI t))] := hl
    refine lv_goto (tgt := 116) hx hb d_MO_holds_23 (by decide) ?_
    refine lv_iload_n hx hb d_MO_holds_116 rfl (lv_at hl 0 rfl) ?_
    refine lv_iconst (v := 1) hx hb d_MO_holds_117 (by decide) ?_
    refine lv_icmp_eq (tgt := 128) hx hb d_MO_holds_118 (by decide) (fun z => absurd z (by decide)) (fun _ => ?_)
    refine lv_aload_n hx hb d_MO_holds_121 rfl (lv_at hl 2 rfl) ?_
    refine mo_get X rfl h 7 (by decide) rfl gf_MO_28 rfl d_MO_holds_122 ?_
    refine lv_iload_n hx hb d_MO_holds_125 rfl (lv_at hl 1 rfl) ?_
    refine lv_iconst (v := (-1)) hx hb d_MO_holds_126 (by decide) ?_
    refine mo_ast X h 6 24 rfl (by decide) (j := p) (v := (-1)) (by omega) (by decide) d_MO_holds_127 (fun H locs h => ?_)
    refine lv_iload_n hx hb d_MO_holds_128 rfl (lv_at hl 0 rfl) ?_
    exact lk_reti X h d_MO_holds_129 (by rw [mm_holds, e0, if_neg (by show ¬ (0 : Int32) = 1; decide)]; exact ⟨rfl, rfl⟩)
  · rw [e9]
    refine lv_if_eq (tgt := 26) hx hb d_MO_holds_14 (by decide) (fun _ => ?_) (fun z => absurd z (by decide))
    obtain ⟨hc, hn, hl1, hv, hkd⟩ := hok hT14
    refine lv_aload_n hx hb d_MO_holds_26 rfl (lv_at hl 2 rfl) ?_
    refine mo_get X rfl h 4 (by decide) rfl gf_MO_19 rfl d_MO_holds_27 ?_
    refine lv_iload_n hx hb d_MO_holds_30 rfl (lv_at hl 1 rfl) ?_
    refine mo_ald X h 3 24 rfl (by decide) (j := p) (by omega) (by decide) d_MO_holds_31 ?_
    refine lv_aload_n hx hb d_MO_holds_32 rfl (lv_at hl 2 rfl) ?_
    refine mo_get X rfl h 18 (by decide) rfl gf_MO_56 rfl d_MO_holds_33 ?_
    refine lv_iload_n hx hb d_MO_holds_36 rfl (lv_at hl 3 rfl) ?_
    refine mo_ald X h 15 4 rfl (by decide) (j := t) (by omega) (by decide) d_MO_holds_37 ?_
    refine lv_icmp_ge (tgt := 56) hx hb d_MO_holds_38 (by decide) (fun h38 => ?_) (fun h38 => ?_)
    · refine lv_aload_n hx hb d_MO_holds_56 rfl (lv_at hl 2 rfl) ?_
      refine mo_get X rfl h 15 (by decide) rfl gf_MO_47 rfl d_MO_holds_57 ?_
      refine lv_iload_n hx hb d_MO_holds_60 rfl (lv_at hl 3 rfl) ?_
      refine mo_ald X h 12 4 rfl (by decide) (j := t) (by omega) (by decide) d_MO_holds_61 ?_
      refine lv_istore hx hb d_MO_holds_62 hl (by decide) rfl (fun ls hl => ?_)
      have hl : lv_has ls 5 [(4, .int (M 12 t)), (3, .int 0), (2, .int (nI p)), (0, .ref (ad 0)), (1, .int (nI t))] := hl
      refine lv_iload hx hb d_MO_holds_64 (lv_at hl 0 rfl) ?_
      refine lv_iconst (v := 1) hx hb d_MO_holds_66 (by decide) ?_
      refine lv_icmp_ne (tgt := 79) hx hb d_MO_holds_67 (by decide) (fun h67 => ?_) (fun h67 => ?_)
      · refine lv_iload hx hb d_MO_holds_79 (lv_at hl 0 rfl) ?_
        refine lv_iconst (v := 4) hx hb d_MO_holds_81 (by decide) ?_
        refine lv_icmp_ne (tgt := 94) hx hb d_MO_holds_82 (by decide) (fun h82 => ?_) (fun h82 => ?_)
        · refine lv_iload hx hb d_MO_holds_94 (lv_at hl 0 rfl) ?_
          refine lv_iconst (v := 2) hx hb d_MO_holds_96 (by decide) ?_
          refine lv_icmp_ne (tgt := 109) hx hb d_MO_holds_97 (by decide) (fun h97 => ?_) (fun h97 => ?_)
          · obtain ⟨hx2, habt, hn1, hpr⟩ := hjo hT14 (Int32.not_lt.mpr h38) h67 h82 h97
            refine lv_aload_n hx hb d_MO_holds_109 rfl (lv_at hl 3 rfl) ?_
            refine lv_iload_n hx hb d_MO_holds_110 rfl (lv_at hl 4 rfl) ?_
            refine lv_iload_n hx hb d_MO_holds_111 rfl (lv_at hl 2 rfl) ?_
            refine lk_goi (lk_runV (As := [.int (nI t), .int (nI p)]) (C := R_MO) X h (c_MO_joins l D τ ad M t p n x a b na nb rt nq _ _ ht hp hx2 habt hc hn1 hn hrt hr0 hnq hq0 rfl rfl hpr) ⟨gc_MO_joins, gm_MO_167, gn_MO, gd_MO_joins, by decide, by decide⟩ gi_MO_joins gs_MO_joins ⟨0, 4, _, _, _, lk_w_get (by decide), rfl⟩ rfl hl.1 (Nat.le_of_ble_eq_true rfl) d_MO_holds_112 ⟨Nat.zero_le _, Nat.zero_le _⟩) h hA (fun r112 σ112 H locs hk9 h => ?_)
            rw [hk9.2] at h
            rw [hk9.1]
            have e0 : mm_hold0 M t p n v rt nq x a b na nb = mm_joins M t p n x a b na nb rt nq (lk_ch M p n (nI x)) (lk_ji (lk_ch M p n (nI x)) n) := by rw [mm_hold0, if_neg hT14, if_neg (Int32.not_lt.mpr h38), if_neg h67, if_neg h82, if_neg h97]
            refine lv_istore_n hx hb d_MO_holds_115 rfl hl (by decide) rfl (fun ls hl => ?_)
            have hl : lv_has ls 5 [(3, .int ((mm_joins M t p n x a b na nb rt nq (lk_ch M p n (nI x)) (lk_ji (lk_ch M p n (nI x)) n)).1)), (4, .int (M 12 t)), (2, .int (nI p)), (0, .ref (ad 0)), (1, .int (nI t))] := hl
            refine lv_iload_n hx hb d_MO_holds_116 rfl (lv_at hl 0 rfl) ?_
            refine lv_iconst (v := 1) hx hb d_MO_holds_117 (by decide) ?_
            refine lv_icmp_eq (tgt := 128) hx hb d_MO_holds_118 (by decide) (fun h118 => ?_) (fun h118 => ?_)
            · refine lv_iload_n hx hb d_MO_holds_128 rfl (lv_at hl 0 rfl) ?_
              exact lk_reti X h d_MO_holds_129 (by rw [mm_holds, e0, if_pos h118]; exact ⟨rfl, rfl⟩)
            · refine lv_aload_n hx hb d_MO_holds_121 rfl (lv_at hl 3 rfl) ?_
              refine mo_get X rfl h 7 (by decide) rfl gf_MO_28 rfl d_MO_holds_122 ?_
              refine lv_iload_n hx hb d_MO_holds_125 rfl (lv_at hl 2 rfl) ?_
              refine lv_iconst (v := (-1)) hx hb d_MO_holds_126 (by decide) ?_
              refine mo_ast X h 6 24 rfl (by decide) (j := p) (v := (-1)) (by omega) (by decide) d_MO_holds_127 (fun H locs h => ?_)
              refine lv_iload_n hx hb d_MO_holds_128 rfl (lv_at hl 0 rfl) ?_
              exact lk_reti X h d_MO_holds_129 (by rw [mm_holds, e0, if_neg h118]; exact ⟨rfl, rfl⟩)
          · refine lv_aload_n hx hb d_MO_holds_100 rfl (lv_at hl 3 rfl) ?_
            refine lv_iload_n hx hb d_MO_holds_101 rfl (lv_at hl 4 rfl) ?_
            refine lv_iload_n hx hb d_MO_holds_102 rfl (lv_at hl 2 rfl) ?_
            refine lk_goi (lk_runV (As := [.int (nI t), .int (nI p)]) (C := R_MO) X h (c_MO_removes l D τ ad M t p n rt nq ht hp hc hn hrt hr0 hnq hq0) ⟨gc_MO_removes, gm_MO_164, gn_MO, gd_MO_removes, by decide, by decide⟩ gi_MO_removes gs_MO_removes ⟨0, 4, _, _, _, lk_w_get (by decide), rfl⟩ rfl hl.1 (Nat.le_of_ble_eq_true rfl) d_MO_holds_103 ⟨Nat.zero_le _, Nat.zero_le _⟩) h hA (fun r103 σ103 H locs hk9 h => ?_)
            rw [hk9.2] at h
            rw [hk9.1]
            have e0 : mm_hold0 M t p n v rt nq x a b na nb = mm_removes M t p n rt nq := by rw [mm_hold0, if_neg hT14, if_neg (Int32.not_lt.mpr h38), if_neg h67, if_neg h82, if_pos h97]
            refine lv_goto (tgt := 115) hx hb d_MO_holds_106 (by decide) ?_
            refine lv_istore_n hx hb d_MO_holds_115 rfl hl (by decide) rfl (fun ls hl => ?_)
            have hl : lv_has ls 5 [(3, .int ((mm_removes M t p n rt nq).1)), (4, .int (M 12 t)), (2, .int (nI p)), (0, .ref (ad 0)), (1, .int (nI t))] := hl
            refine lv_iload_n hx hb d_MO_holds_116 rfl (lv_at hl 0 rfl) ?_
            refine lv_iconst (v := 1) hx hb d_MO_holds_117 (by decide) ?_
            refine lv_icmp_eq (tgt := 128) hx hb d_MO_holds_118 (by decide) (fun h118 => ?_) (fun h118 => ?_)
            · refine lv_iload_n hx hb d_MO_holds_128 rfl (lv_at hl 0 rfl) ?_
              exact lk_reti X h d_MO_holds_129 (by rw [mm_holds, e0, if_pos h118]; exact ⟨rfl, rfl⟩)
            · refine lv_aload_n hx hb d_MO_holds_121 rfl (lv_at hl 3 rfl) ?_
              refine mo_get X rfl h 7 (by decide) rfl gf_MO_28 rfl d_MO_holds_122 ?_
              refine lv_iload_n hx hb d_MO_holds_125 rfl (lv_at hl 2 rfl) ?_
              refine lv_iconst (v := (-1)) hx hb d_MO_holds_126 (by decide) ?_
              refine mo_ast X h 6 24 rfl (by decide) (j := p) (v := (-1)) (by omega) (by decide) d_MO_holds_127 (fun H locs h => ?_)
              refine lv_iload_n hx hb d_MO_holds_128 rfl (lv_at hl 0 rfl) ?_
              exact lk_reti X h d_MO_holds_129 (by rw [mm_holds, e0, if_neg h118]; exact ⟨rfl, rfl⟩)
        · refine lv_aload_n hx hb d_MO_holds_85 rfl (lv_at hl 3 rfl) ?_
          refine lv_iload_n hx hb d_MO_holds_86 rfl (lv_at hl 4 rfl) ?_
          refine lv_iload_n hx hb d_MO_holds_87 rfl (lv_at hl 2 rfl) ?_
          refine lk_goi (lk_runV (As := [.int (nI t), .int (nI p)]) (C := R_MO) X h (c_MO_posts l D τ ad M t p n v ht hp hc hn hkd hv hl1 (hpo hT14 (Int32.not_lt.mpr h38) h82)) ⟨gc_MO_posts, gm_MO_161, gn_MO, gd_MO_posts, by decide, by decide⟩ gi_MO_posts gs_MO_posts ⟨0, 4, _, _, _, lk_w_get (by decide), rfl⟩ rfl hl.1 (Nat.le_of_ble_eq_true rfl) d_MO_holds_88 ⟨Nat.zero_le _, Nat.zero_le _⟩) h hA (fun r88 σ88 H locs hk9 h => ?_)
          rw [hk9.2] at h
          rw [hk9.1]
          have e0 : mm_hold0 M t p n v rt nq x a b na nb = mm_posts M t p n v := by rw [mm_hold0, if_neg hT14, if_neg (Int32.not_lt.mpr h38), if_neg h67, if_pos h82]
          refine lv_goto (tgt := 115) hx hb d_MO_holds_91 (by decide) ?_
          refine lv_istore_n hx hb d_MO_holds_115 rfl hl (by decide) rfl (fun ls hl => ?_)
          have hl : lv_has ls 5 [(3, .int ((mm_posts M t p n v).1)), (4, .int (M 12 t)), (2, .int (nI p)), (0, .ref (ad 0)), (1, .int (nI t))] := hl
          refine lv_iload_n hx hb d_MO_holds_116 rfl (lv_at hl 0 rfl) ?_
          refine lv_iconst (v := 1) hx hb d_MO_holds_117 (by decide) ?_
          refine lv_icmp_eq (tgt := 128) hx hb d_MO_holds_118 (by decide) (fun h118 => ?_) (fun h118 => ?_)
          · refine lv_iload_n hx hb d_MO_holds_128 rfl (lv_at hl 0 rfl) ?_
            exact lk_reti X h d_MO_holds_129 (by rw [mm_holds, e0, if_pos h118]; exact ⟨rfl, rfl⟩)
          · refine lv_aload_n hx hb d_MO_holds_121 rfl (lv_at hl 3 rfl) ?_
            refine mo_get X rfl h 7 (by decide) rfl gf_MO_28 rfl d_MO_holds_122 ?_
            refine lv_iload_n hx hb d_MO_holds_125 rfl (lv_at hl 2 rfl) ?_
            refine lv_iconst (v := (-1)) hx hb d_MO_holds_126 (by decide) ?_
            refine mo_ast X h 6 24 rfl (by decide) (j := p) (v := (-1)) (by omega) (by decide) d_MO_holds_127 (fun H locs h => ?_)
            refine lv_iload_n hx hb d_MO_holds_128 rfl (lv_at hl 0 rfl) ?_
            exact lk_reti X h d_MO_holds_129 (by rw [mm_holds, e0, if_neg h118]; exact ⟨rfl, rfl⟩)
      · refine lv_aload_n hx hb d_MO_holds_70 rfl (lv_at hl 3 rfl) ?_
        refine lv_iload_n hx hb d_MO_holds_71 rfl (lv_at hl 4 rfl) ?_
        refine lv_iload_n hx hb d_MO_holds_72 rfl (lv_at hl 2 rfl) ?_
        refine lk_goi (lk_runV (As := [.int (nI t), .int (nI p)]) (C := R_MO) X h (c_MO_puts l D τ ad M t p n v ht hp hc hn hkd hv hl1) ⟨gc_MO_puts, gm_MO_158, gn_MO, gd_MO_puts, by decide, by decide⟩ gi_MO_puts gs_MO_puts ⟨0, 4, _, _, _, lk_w_get (by decide), rfl⟩ rfl hl.1 (Nat.le_of_ble_eq_true rfl) d_MO_holds_73 ⟨Nat.zero_le _, Nat.zero_le _⟩) h hA (fun r73 σ73 H locs hk9 h => ?_)
        rw [hk9.2] at h
        rw [hk9.1]
        have e0 : mm_hold0 M t p n v rt nq x a b na nb = mm_puts M t p n v := by rw [mm_hold0, if_neg hT14, if_neg (Int32.not_lt.mpr h38), if_pos h67]
        refine lv_goto (tgt := 115) hx hb d_MO_holds_76 (by decide) ?_
        refine lv_istore_n hx hb d_MO_holds_115 rfl hl (by decide) rfl (fun ls hl => ?_)
        have hl : lv_has ls 5 [(3, .int ((mm_puts M t p n v).1)), (4, .int (M 12 t)), (2, .int (nI p)), (0, .ref (ad 0)), (1, .int (nI t))] := hl
        refine lv_iload_n hx hb d_MO_holds_116 rfl (lv_at hl 0 rfl) ?_
        refine lv_iconst (v := 1) hx hb d_MO_holds_117 (by decide) ?_
        refine lv_icmp_eq (tgt := 128) hx hb d_MO_holds_118 (by decide) (fun h118 => ?_) (fun h118 => ?_)
        · refine lv_iload_n hx hb d_MO_holds_128 rfl (lv_at hl 0 rfl) ?_
          exact lk_reti X h d_MO_holds_129 (by rw [mm_holds, e0, if_pos h118]; exact ⟨rfl, rfl⟩)
        · refine lv_aload_n hx hb d_MO_holds_121 rfl (lv_at hl 3 rfl) ?_
          refine mo_get X rfl h 7 (by decide) rfl gf_MO_28 rfl d_MO_holds_122 ?_
          refine lv_iload_n hx hb d_MO_holds_125 rfl (lv_at hl 2 rfl) ?_
          refine lv_iconst (v := (-1)) hx hb d_MO_holds_126 (by decide) ?_
          refine mo_ast X h 6 24 rfl (by decide) (j := p) (v := (-1)) (by omega) (by decide) d_MO_holds_127 (fun H locs h => ?_)
          refine lv_iload_n hx hb d_MO_holds_128 rfl (lv_at hl 0 rfl) ?_
          exact lk_reti X h d_MO_holds_129 (by rw [mm_holds, e0, if_neg h118]; exact ⟨rfl, rfl⟩)
    · refine lv_aload_n hx hb d_MO_holds_41 rfl (lv_at hl 2 rfl) ?_
      refine lv_iload_n hx hb d_MO_holds_42 rfl (lv_at hl 3 rfl) ?_
      refine lk_gov (lk_runV (As := [.int (nI t)]) (C := R_MO) X h (c_MO_goRight l D τ ad M t p ht hp hpl) ⟨gc_MO_goRight, gm_MO_136, gn_MO, gd_MO_goRight, by decide, by decide⟩ gi_MO_goRight gs_MO_goRight ⟨0, 4, _, _, _, lk_w_get (by decide), rfl⟩ rfl hl.1 (Nat.le_of_ble_eq_true rfl) d_MO_holds_43 ⟨Nat.zero_le _, Nat.zero_le _⟩) h hA (fun σ43 H locs hk9 h => ?_)
      rw [hk9] at h
      have e0 : mm_hold0 M t p n v rt nq x a b na nb = (0, lk_st (lk_rgt M t p) 13 t 1) := by rw [mm_hold0, if_neg hT14, if_pos (Int32.not_le.mp h38)]
      refine lv_aload_n hx hb d_MO_holds_46 rfl (lv_at hl 2 rfl) ?_
      refine mo_get X rfl h 16 (by decide) rfl gf_MO_50 rfl d_MO_holds_47 ?_
      refine lv_iload_n hx hb d_MO_holds_50 rfl (lv_at hl 3 rfl) ?_
      refine lv_iconst (v := 1) hx hb d_MO_holds_51 (by decide) ?_
      refine mo_ast X h 13 4 rfl (by decide) (j := t) (v := 1) (by omega) (by decide) d_MO_holds_52 (fun H locs h => ?_)
      refine lv_goto (tgt := 116) hx hb d_MO_holds_53 (by decide) ?_
      refine lv_iload_n hx hb d_MO_holds_116 rfl (lv_at hl 0 rfl) ?_
      refine lv_iconst (v := 1) hx hb d_MO_holds_117 (by decide) ?_
      refine lv_icmp_eq (tgt := 128) hx hb d_MO_holds_118 (by decide) (fun z => absurd z (by decide)) (fun _ => ?_)
      refine lv_aload_n hx hb d_MO_holds_121 rfl (lv_at hl 2 rfl) ?_
      refine mo_get X rfl h 7 (by decide) rfl gf_MO_28 rfl d_MO_holds_122 ?_
      refine lv_iload_n hx hb d_MO_holds_125 rfl (lv_at hl 1 rfl) ?_
      refine lv_iconst (v := (-1)) hx hb d_MO_holds_126 (by decide) ?_
      refine mo_ast X h 6 24 rfl (by decide) (j := p) (v := (-1)) (by omega) (by decide) d_MO_holds_127 (fun H locs h => ?_)
      refine lv_iload_n hx hb d_MO_holds_128 rfl (lv_at hl 0 rfl) ?_
      exact lk_reti X h d_MO_holds_129 (by rw [mm_holds, e0, if_neg (by show ¬ (0 : Int32) = 1; decide)]; exact ⟨rfl, rfl⟩)
noncomputable def mm_step0 (M : lk_M) (t p n v rt nq x a b na nb : Nat) : Int32 × lk_M :=
  if M 13 t = 0 then mm_searches M t p n v rt else if M 13 t = 1 then mm_locks M t p else mm_holds M t p n v rt nq x a b na nb
def mm_cnt (y : Int32 × lk_M) (t : Nat) : lk_M :=
  if y.1 = 1 then lk_st (lk_st y.2 22 (4 * t) (y.2 22 (4 * t) + 1)) 22 (4 * t + 1) (y.2 22 (4 * t + 1) + 1) else lk_st y.2 22 (4 * t) (y.2 22 (4 * t) + 1)
set_option maxRecDepth 20000 in
theorem c_MO_step_bad (l : Launch) (D : va_G) (τ : Nat → ClassId) (ad : Nat → Nat) (M : lk_M) (x : Int32) (hx0 : ¬ (0 ≤ x ∧ x ≤ 3)) : lk_Ci l D τ 25 ad (lk_me τ ad) y_MO_step b_MO_step 3 (.int) 5 118 [.ref (ad 0), .int x] M (fun r M1 => r = 0 ∧ M1 = lk_st M 24 2 1) := by
  refine lk_openi (by decide +kernel) (Nat.le_of_ble_eq_true rfl) ?_
  intro pg en s m args below meth cd ls A X h hA hl
  obtain ⟨hx, hb, -⟩ := id X
  have hl : lv_has ls 3 [(0, .ref (ad 0)), (1, .int x)] := hl
  refine lv_aload_n hx hb d_MO_step_0 rfl (lv_at hl 0 rfl) ?_
  refine lv_aload_n hx hb d_MO_step_1 rfl (lv_at hl 0 rfl) ?_
  refine lv_iload_n hx hb d_MO_step_2 rfl (lv_at hl 1 rfl) ?_
  refine lk_goi (lk_runV (As := [.int x]) (C := R_MO) X h (c_MO_isTask l D τ ad M x) ⟨gc_MO_isTask, gm_MO_115, gn_MO, gd_MO_isTask, by decide, by decide⟩ gi_MO_isTask gs_MO_isTask ⟨0, 4, _, _, _, lk_w_get (by decide), rfl⟩ rfl hl.1 (Nat.le_of_ble_eq_true rfl) d_MO_step_3 ⟨Nat.zero_le _, Nat.zero_le _⟩) h hA (fun r3 σ3 H locs hk9 h => ?_)
  rw [hk9.2] at h
  rw [hk9.1, if_neg hx0]
  refine lv_if_ne (tgt := 13) hx hb d_MO_step_6 (by decide) (fun z => absurd z (by decide)) (fun _ => ?_)
  refine lv_iconst (v := 1) hx hb d_MO_step_9 (by decide) ?_
  refine lv_goto (tgt := 14) hx hb d_MO_step_10 (by decide) ?_
  refine lv_iconst (v := 1) hx hb d_MO_step_14 (by decide) ?_
  refine lk_goi (lk_runV (As := [.int 1, .int 1]) (C := R_MO) X h (c_MO_fails l D τ ad _ 1 1 (by decide)) ⟨gc_MO_fails, gm_MO_119, gn_MO, gd_MO_fails, by decide, by decide⟩ gi_MO_fails gs_MO_fails ⟨0, 4, _, _, _, lk_w_get (by decide), rfl⟩ rfl hl.1 (Nat.le_of_ble_eq_true rfl) d_MO_step_15 ⟨Nat.zero_le _, Nat.zero_le _⟩) h hA (fun r15 σ15 H locs hk9 h => ?_)
  rw [hk9.2, if_neg (by decide)] at h
  rw [hk9.1]
  refine lv_if_ne (tgt := 43) hx hb d_MO_step_18 (by decide) (fun _ => ?_) (fun z => absurd z (by decide))
  refine lv_iconst (v := 0) hx hb d_MO_step_43 (by decide) ?_
  exact lk_reti X h d_MO_step_44 (⟨rfl, rfl⟩)
set_option maxRecDepth 20000 in
theorem c_MO_step_no (l : Launch) (D : va_G) (τ : Nat → ClassId) (ad : Nat → Nat) (M : lk_M) (t : Nat) (ht : t < 4) (hbu : M 11 t = 0) : lk_Ci l D τ 25 ad (lk_me τ ad) y_MO_step b_MO_step 3 (.int) 5 118 [.ref (ad 0), .int (nI t)] M (fun r M1 => r = 0 ∧ M1 = lk_st M 24 2 2) := by
  refine lk_openi (by decide +kernel) (Nat.le_of_ble_eq_true rfl) ?_
  intro pg en s m args below meth cd ls A X h hA hl
  obtain ⟨hx, hb, -⟩ := id X
  have hl : lv_has ls 3 [(0, .ref (ad 0)), (1, .int (nI t))] := hl
  refine lv_aload_n hx hb d_MO_step_0 rfl (lv_at hl 0 rfl) ?_
  refine lv_aload_n hx hb d_MO_step_1 rfl (lv_at hl 0 rfl) ?_
  refine lv_iload_n hx hb d_MO_step_2 rfl (lv_at hl 1 rfl) ?_
  refine lk_goi (lk_runV (As := [.int (nI t)]) (C := R_MO) X h (c_MO_isTask l D τ ad M (nI t)) ⟨gc_MO_isTask, gm_MO_115, gn_MO, gd_MO_isTask, by decide, by decide⟩ gi_MO_isTask gs_MO_isTask ⟨0, 4, _, _, _, lk_w_get (by decide), rfl⟩ rfl hl.1 (Nat.le_of_ble_eq_true rfl) d_MO_step_3 ⟨Nat.zero_le _, Nat.zero_le _⟩) h hA (fun r3 σ3 H locs hk9 h => ?_)
  rw [hk9.2] at h
  rw [hk9.1, if_pos (lk_in4' ht)]
  refine lv_if_ne (tgt := 13) hx hb d_MO_step_6 (by decide) (fun _ => ?_) (fun z => absurd z (by decide))
  refine lv_iconst (v := 0) hx hb d_MO_step_13 (by decide) ?_
  refine lv_iconst (v := 1) hx hb d_MO_step_14 (by decide) ?_
  refine lk_goi (lk_runV (As := [.int 0, .int 1]) (C := R_MO) X h (c_MO_fails l D τ ad _ 0 1 (by decide)) ⟨gc_MO_fails, gm_MO_119, gn_MO, gd_MO_fails, by decide, by decide⟩ gi_MO_fails gs_MO_fails ⟨0, 4, _, _, _, lk_w_get (by decide), rfl⟩ rfl hl.1 (Nat.le_of_ble_eq_true rfl) d_MO_step_15 ⟨Nat.zero_le _, Nat.zero_le _⟩) h hA (fun r15 σ15 H locs hk9 h => ?_)
  rw [hk9.2, if_pos rfl] at h
  rw [hk9.1]
  refine lv_if_ne (tgt := 43) hx hb d_MO_step_18 (by decide) (fun z => absurd z (by decide)) (fun _ => ?_)
  refine lv_aload_n hx hb d_MO_step_21 rfl (lv_at hl 0 rfl) ?_
  refine lv_aload_n hx hb d_MO_step_22 rfl (lv_at hl 0 rfl) ?_
  refine mo_get X rfl h 14 (by decide) rfl gf_MO_43 rfl d_MO_step_23 ?_
  refine lv_iload_n hx hb d_MO_step_26 rfl (lv_at hl 1 rfl) ?_
  refine mo_zald X h 11 (by decide) (j := t) (by omega) d_MO_step_27 ?_
  refine lk_top 0 ((lk_st_f (by decide)).trans hbu) ?_
  refine lv_if_ne (tgt := 35) hx hb d_MO_step_28 (by decide) (fun z => absurd z (by decide)) (fun _ => ?_)
  refine lv_iconst (v := 1) hx hb d_MO_step_31 (by decide) ?_
  refine lv_goto (tgt := 36) hx hb d_MO_step_32 (by decide) ?_
  refine lv_iconst (v := 2) hx hb d_MO_step_36 (by decide) ?_
  refine lk_goi (lk_runV (As := [.int 1, .int 2]) (C := R_MO) X h (c_MO_fails l D τ ad _ 1 2 (by decide)) ⟨gc_MO_fails, gm_MO_119, gn_MO, gd_MO_fails, by decide, by decide⟩ gi_MO_fails gs_MO_fails ⟨0, 4, _, _, _, lk_w_get (by decide), rfl⟩ rfl hl.1 (Nat.le_of_ble_eq_true rfl) d_MO_step_37 ⟨Nat.zero_le _, Nat.zero_le _⟩) h hA (fun r37 σ37 H locs hk9 h => ?_)
  rw [hk9.2, if_neg (by decide)] at h
  rw [hk9.1]
  rw [lk_st_st] at h
  refine lv_if_eq (tgt := 45) hx hb d_MO_step_40 (by decide) (fun z => absurd z (by decide)) (fun _ => ?_)
  refine lv_iconst (v := 0) hx hb d_MO_step_43 (by decide) ?_
  exact lk_reti X h d_MO_step_44 (⟨rfl, rfl⟩)
set_option maxRecDepth 20000 in
theorem c_MO_answer_bad (l : Launch) (D : va_G) (τ : Nat → ClassId) (ad : Nat → Nat) (M : lk_M) (x : Int32) (hx0 : ¬ (0 ≤ x ∧ x ≤ 3)) : lk_Ci l D τ 25 ad (lk_me τ ad) y_MO_answer b_MO_answer 2 (.int) 2 43 [.ref (ad 0), .int x] M (fun r M1 => r = 0 ∧ M1 = lk_st M 24 2 1) := by
  refine lk_openi (by decide +kernel) (Nat.le_of_ble_eq_true rfl) ?_
  intro pg en s m args below meth cd ls A X h hA hl
  obtain ⟨hx, hb, -⟩ := id X
  have hl : lv_has ls 2 [(0, .ref (ad 0)), (1, .int x)] := hl
  refine lv_aload_n hx hb d_MO_answer_0 rfl (lv_at hl 0 rfl) ?_
  refine lv_aload_n hx hb d_MO_answer_1 rfl (lv_at hl 0 rfl) ?_
  refine lv_iload_n hx hb d_MO_answer_2 rfl (lv_at hl 1 rfl) ?_
  refine lk_goi (lk_runV (As := [.int x]) (C := R_MO) X h (c_MO_isTask l D τ ad M x) ⟨gc_MO_isTask, gm_MO_115, gn_MO, gd_MO_isTask, by decide, by decide⟩ gi_MO_isTask gs_MO_isTask ⟨0, 4, _, _, _, lk_w_get (by decide), rfl⟩ rfl hl.1 (Nat.le_of_ble_eq_true rfl) d_MO_answer_3 ⟨Nat.zero_le _, Nat.zero_le _⟩) h hA (fun r3 σ3 H locs hk9 h => ?_)
  rw [hk9.2] at h
  rw [hk9.1, if_neg hx0]
  refine lv_if_ne (tgt := 13) hx hb d_MO_answer_6 (by decide) (fun z => absurd z (by decide)) (fun _ => ?_)
  refine lv_iconst (v := 1) hx hb d_MO_answer_9 (by decide) ?_
  refine lv_goto (tgt := 14) hx hb d_MO_answer_10 (by decide) ?_
  refine lv_iconst (v := 1) hx hb d_MO_answer_14 (by decide) ?_
  refine lk_goi (lk_runV (As := [.int 1, .int 1]) (C := R_MO) X h (c_MO_fails l D τ ad _ 1 1 (by decide)) ⟨gc_MO_fails, gm_MO_119, gn_MO, gd_MO_fails, by decide, by decide⟩ gi_MO_fails gs_MO_fails ⟨0, 4, _, _, _, lk_w_get (by decide), rfl⟩ rfl hl.1 (Nat.le_of_ble_eq_true rfl) d_MO_answer_15 ⟨Nat.zero_le _, Nat.zero_le _⟩) h hA (fun r15 σ15 H locs hk9 h => ?_)
  rw [hk9.2, if_neg (by decide)] at h
  rw [hk9.1]
  refine lv_if_ne (tgt := 43) hx hb d_MO_answer_18 (by decide) (fun _ => ?_) (fun z => absurd z (by decide))
  refine lv_iconst (v := 0) hx hb d_MO_answer_43 (by decide) ?_
  exact lk_reti X h d_MO_answer_44 (⟨rfl, rfl⟩)
set_option maxRecDepth 20000 in
theorem c_MO_answer_no (l : Launch) (D : va_G) (τ : Nat → ClassId) (ad : Nat → Nat) (M : lk_M) (t : Nat) (ht : t < 4) (hbu : M 20 t = 0) : lk_Ci l D τ 25 ad (lk_me τ ad) y_MO_answer b_MO_answer 2 (.int) 2 43 [.ref (ad 0), .int (nI t)] M (fun r M1 => r = 0 ∧ M1 = lk_st M 24 2 2) := by
  refine lk_openi (by decide +kernel) (Nat.le_of_ble_eq_true rfl) ?_
  intro pg en s m args below meth cd ls A X h hA hl
  obtain ⟨hx, hb, -⟩ := id X
  have hl : lv_has ls 2 [(0, .ref (ad 0)), (1, .int (nI t))] := hl
  refine lv_aload_n hx hb d_MO_answer_0 rfl (lv_at hl 0 rfl) ?_
  refine lv_aload_n hx hb d_MO_answer_1 rfl (lv_at hl 0 rfl) ?_
  refine lv_iload_n hx hb d_MO_answer_2 rfl (lv_at hl 1 rfl) ?_
  refine lk_goi (lk_runV (As := [.int (nI t)]) (C := R_MO) X h (c_MO_isTask l D τ ad M (nI t)) ⟨gc_MO_isTask, gm_MO_115, gn_MO, gd_MO_isTask, by decide, by decide⟩ gi_MO_isTask gs_MO_isTask ⟨0, 4, _, _, _, lk_w_get (by decide), rfl⟩ rfl hl.1 (Nat.le_of_ble_eq_true rfl) d_MO_answer_3 ⟨Nat.zero_le _, Nat.zero_le _⟩) h hA (fun r3 σ3 H locs hk9 h => ?_)
  rw [hk9.2] at h
  rw [hk9.1, if_pos (lk_in4' ht)]
  refine lv_if_ne (tgt := 13) hx hb d_MO_answer_6 (by decide) (fun _ => ?_) (fun z => absurd z (by decide))
  refine lv_iconst (v := 0) hx hb d_MO_answer_13 (by decide) ?_
  refine lv_iconst (v := 1) hx hb d_MO_answer_14 (by decide) ?_
  refine lk_goi (lk_runV (As := [.int 0, .int 1]) (C := R_MO) X h (c_MO_fails l D τ ad _ 0 1 (by decide)) ⟨gc_MO_fails, gm_MO_119, gn_MO, gd_MO_fails, by decide, by decide⟩ gi_MO_fails gs_MO_fails ⟨0, 4, _, _, _, lk_w_get (by decide), rfl⟩ rfl hl.1 (Nat.le_of_ble_eq_true rfl) d_MO_answer_15 ⟨Nat.zero_le _, Nat.zero_le _⟩) h hA (fun r15 σ15 H locs hk9 h => ?_)
  rw [hk9.2, if_pos rfl] at h
  rw [hk9.1]
  refine lv_if_ne (tgt := 43) hx hb d_MO_answer_18 (by decide) (fun z => absurd z (by decide)) (fun _ => ?_)
  refine lv_aload_n hx hb d_MO_answer_21 rfl (lv_at hl 0 rfl) ?_
  refine lv_aload_n hx hb d_MO_answer_22 rfl (lv_at hl 0 rfl) ?_
  refine mo_get X rfl h 23 (by decide) rfl gf_MO_71 rfl d_MO_answer_23 ?_
  refine lv_iload_n hx hb d_MO_answer_26 rfl (lv_at hl 1 rfl) ?_
  refine mo_zald X h 20 (by decide) (j := t) (by omega) d_MO_answer_27 ?_
  refine lk_top 0 ((lk_st_f (by decide)).trans hbu) ?_
  refine lv_if_ne (tgt := 35) hx hb d_MO_answer_28 (by decide) (fun z => absurd z (by decide)) (fun _ => ?_)
  refine lv_iconst (v := 1) hx hb d_MO_answer_31 (by decide) ?_
  refine lv_goto (tgt := 36) hx hb d_MO_answer_32 (by decide) ?_
  refine lv_iconst (v := 2) hx hb d_MO_answer_36 (by decide) ?_
  refine lk_goi (lk_runV (As := [.int 1, .int 2]) (C := R_MO) X h (c_MO_fails l D τ ad _ 1 2 (by decide)) ⟨gc_MO_fails, gm_MO_119, gn_MO, gd_MO_fails, by decide, by decide⟩ gi_MO_fails gs_MO_fails ⟨0, 4, _, _, _, lk_w_get (by decide), rfl⟩ rfl hl.1 (Nat.le_of_ble_eq_true rfl) d_MO_answer_37 ⟨Nat.zero_le _, Nat.zero_le _⟩) h hA (fun r37 σ37 H locs hk9 h => ?_)
  rw [hk9.2, if_neg (by decide)] at h
  rw [hk9.1]
  rw [lk_st_st] at h
  refine lv_if_eq (tgt := 45) hx hb d_MO_answer_40 (by decide) (fun z => absurd z (by decide)) (fun _ => ?_)
  refine lv_iconst (v := 0) hx hb d_MO_answer_43 (by decide) ?_
  exact lk_reti X h d_MO_answer_44 (⟨rfl, rfl⟩)
set_option maxRecDepth 20000 in
theorem c_MO_answer (l : Launch) (D : va_G) (τ : Nat → ClassId) (ad : Nat → Nat) (M : lk_M) (t : Nat) (ht : t < 4) (hbu : M 20 t = 1) : lk_Ci l D τ 25 ad (lk_me τ ad) y_MO_answer b_MO_answer 2 (.int) 2 43 [.ref (ad 0), .int (nI t)] M (fun r M1 => r = M 21 t ∧ M1 = lk_st M 24 2 0) := by
  refine lk_openi (by decide +kernel) (Nat.le_of_ble_eq_true rfl) ?_
  intro pg en s m args below meth cd ls A X h hA hl
  obtain ⟨hx, hb, -⟩ := id X
  have hl : lv_has ls 2 [(0, .ref (ad 0)), (1, .int (nI t))] := hl
  refine lv_aload_n hx hb d_MO_answer_0 rfl (lv_at hl 0 rfl) ?_
  refine lv_aload_n hx hb d_MO_answer_1 rfl (lv_at hl 0 rfl) ?_
  refine lv_iload_n hx hb d_MO_answer_2 rfl (lv_at hl 1 rfl) ?_
  refine lk_goi (lk_runV (As := [.int (nI t)]) (C := R_MO) X h (c_MO_isTask l D τ ad M (nI t)) ⟨gc_MO_isTask, gm_MO_115, gn_MO, gd_MO_isTask, by decide, by decide⟩ gi_MO_isTask gs_MO_isTask ⟨0, 4, _, _, _, lk_w_get (by decide), rfl⟩ rfl hl.1 (Nat.le_of_ble_eq_true rfl) d_MO_answer_3 ⟨Nat.zero_le _, Nat.zero_le _⟩) h hA (fun r3 σ3 H locs hk9 h => ?_)
  rw [hk9.2] at h
  rw [hk9.1, if_pos (lk_in4' ht)]
  refine lv_if_ne (tgt := 13) hx hb d_MO_answer_6 (by decide) (fun _ => ?_) (fun z => absurd z (by decide))
  refine lv_iconst (v := 0) hx hb d_MO_answer_13 (by decide) ?_
  refine lv_iconst (v := 1) hx hb d_MO_answer_14 (by decide) ?_
  refine lk_goi (lk_runV (As := [.int 0, .int 1]) (C := R_MO) X h (c_MO_fails l D τ ad _ 0 1 (by decide)) ⟨gc_MO_fails, gm_MO_119, gn_MO, gd_MO_fails, by decide, by decide⟩ gi_MO_fails gs_MO_fails ⟨0, 4, _, _, _, lk_w_get (by decide), rfl⟩ rfl hl.1 (Nat.le_of_ble_eq_true rfl) d_MO_answer_15 ⟨Nat.zero_le _, Nat.zero_le _⟩) h hA (fun r15 σ15 H locs hk9 h => ?_)
  rw [hk9.2, if_pos rfl] at h
  rw [hk9.1]
  refine lv_if_ne (tgt := 43) hx hb d_MO_answer_18 (by decide) (fun z => absurd z (by decide)) (fun _ => ?_)
  refine lv_aload_n hx hb d_MO_answer_21 rfl (lv_at hl 0 rfl) ?_
  refine lv_aload_n hx hb d_MO_answer_22 rfl (lv_at hl 0 rfl) ?_
  refine mo_get X rfl h 23 (by decide) rfl gf_MO_71 rfl d_MO_answer_23 ?_
  refine lv_iload_n hx hb d_MO_answer_26 rfl (lv_at hl 1 rfl) ?_
  refine mo_zald X h 20 (by decide) (j := t) (by omega) d_MO_answer_27 ?_
  refine lk_top 1 ((lk_st_f (by decide)).trans hbu) ?_
  refine lv_if_ne (tgt := 35) hx hb d_MO_answer_28 (by decide) (fun _ => ?_) (fun z => absurd z (by decide))
  refine lv_iconst (v := 0) hx hb d_MO_answer_35 (by decide) ?_
  refine lv_iconst (v := 2) hx hb d_MO_answer_36 (by decide) ?_
  refine lk_goi (lk_runV (As := [.int 0, .int 2]) (C := R_MO) X h (c_MO_fails l D τ ad _ 0 2 (by decide)) ⟨gc_MO_fails, gm_MO_119, gn_MO, gd_MO_fails, by decide, by decide⟩ gi_MO_fails gs_MO_fails ⟨0, 4, _, _, _, lk_w_get (by decide), rfl⟩ rfl hl.1 (Nat.le_of_ble_eq_true rfl) d_MO_answer_37 ⟨Nat.zero_le _, Nat.zero_le _⟩) h hA (fun r37 σ37 H locs hk9 h => ?_)
  rw [hk9.2, if_pos rfl] at h
  rw [hk9.1]
  rw [lk_st_st] at h
  refine lv_if_eq (tgt := 45) hx hb d_MO_answer_40 (by decide) (fun _ => ?_) (fun z => absurd z (by decide))
  refine lv_aload_n hx hb d_MO_answer_45 rfl (lv_at hl 0 rfl) ?_
  refine mo_get X rfl h 24 (by decide) rfl gf_MO_74 rfl d_MO_answer_46 ?_
  refine lv_iload_n hx hb d_MO_answer_49 rfl (lv_at hl 1 rfl) ?_
  refine mo_ald X h 21 4 rfl (by decide) (j := t) (by omega) (by decide) d_MO_answer_50 ?_
  refine lk_top (M 21 t) (lk_st_f (by decide)) ?_
  exact lk_reti X h d_MO_answer_51 (⟨rfl, rfl⟩)
set_option maxRecDepth 20000 in
theorem c_MO_step (l : Launch) (D : va_G) (τ : Nat → ClassId) (ad : Nat → Nat) (M : lk_M) (t p n v rt nq x a b na nb : Nat) (hbu : M 11 t = 1) (hh : lk_spre (lk_st M 24 2 0) t p n v rt nq x a b na nb) : lk_Ci l D τ 25 ad (lk_me τ ad) y_MO_step b_MO_step 3 (.int) 5 118 [.ref (ad 0), .int (nI t)] M (fun r M1 => r = (mm_step0 (lk_st M 24 2 0) t p n v rt nq x a b na nb).1 ∧ M1 = mm_cnt (mm_step0 (lk_st M 24 2 0) t p n v rt nq x a b na nb) t) := by
  refine lk_openi (by decide +kernel) (Nat.le_of_ble_eq_true rfl) ?_
  intro pg en s m args below meth cd ls A X h hA hl
  obtain ⟨hx, hb, -⟩ := id X
  have hl : lv_has ls 3 [(0, .ref (ad 0)), (1, .int (nI t))] := hl
  have hh2 := hh
  obtain ⟨ht, hp, hpl, hrt, hr0, hnq, hq0, hok, hpo⟩ := hh2
  refine lv_aload_n hx hb d_MO_step_0 rfl (lv_at hl 0 rfl) ?_
  refine lv_aload_n hx hb d_MO_step_1 rfl (lv_at hl 0 rfl) ?_
  refine lv_iload_n hx hb d_MO_step_2 rfl (lv_at hl 1 rfl) ?_
  refine lk_goi (lk_runV (As := [.int (nI t)]) (C := R_MO) X h (c_MO_isTask l D τ ad M (nI t)) ⟨gc_MO_isTask, gm_MO_115, gn_MO, gd_MO_isTask, by decide, by decide⟩ gi_MO_isTask gs_MO_isTask ⟨0, 4, _, _, _, lk_w_get (by decide), rfl⟩ rfl hl.1 (Nat.le_of_ble_eq_true rfl) d_MO_step_3 ⟨Nat.zero_le _, Nat.zero_le _⟩) h hA (fun r3 σ3 H locs hk9 h => ?_)
  rw [hk9.2] at h
  rw [hk9.1, if_pos (lk_in4' ht)]
  refine lv_if_ne (tgt := 13) hx hb d_MO_step_6 (by decide) (fun _ => ?_) (fun z => absurd z (by decide))
  refine lv_iconst (v := 0) hx hb d_MO_step_13 (by decide) ?_
  refine lv_iconst (v := 1) hx hb d_MO_step_14 (by decide) ?_
  refine lk_goi (lk_runV (As := [.int 0, .int 1]) (C := R_MO) X h (c_MO_fails l D τ ad _ 0 1 (by decide)) ⟨gc_MO_fails, gm_MO_119, gn_MO, gd_MO_fails, by decide, by decide⟩ gi_MO_fails gs_MO_fails ⟨0, 4, _, _, _, lk_w_get (by decide), rfl⟩ rfl hl.1 (Nat.le_of_ble_eq_true rfl) d_MO_step_15 ⟨Nat.zero_le _, Nat.zero_le _⟩) h hA (fun r15 σ15 H locs hk9 h => ?_)
  rw [hk9.2, if_pos rfl] at h
  rw [hk9.1]
  refine lv_if_ne (tgt := 43) hx hb d_MO_step_18 (by decide) (fun z => absurd z (by decide)) (fun _ => ?_)
  refine lv_aload_n hx hb d_MO_step_21 rfl (lv_at hl 0 rfl) ?_
  refine lv_aload_n hx hb d_MO_step_22 rfl (lv_at hl 0 rfl) ?_
  refine mo_get X rfl h 14 (by decide) rfl gf_MO_43 rfl d_MO_step_23 ?_
  refine lv_iload_n hx hb d_MO_step_26 rfl (lv_at hl 1 rfl) ?_
  refine mo_zald X h 11 (by decide) (j := t) (by omega) d_MO_step_27 ?_
  refine lk_top 1 ((lk_st_f (by decide)).trans hbu) ?_
  refine lv_if_ne (tgt := 35) hx hb d_MO_step_28 (by decide) (fun _ => ?_) (fun z => absurd z (by decide))
  refine lv_iconst (v := 0) hx hb d_MO_step_35 (by decide) ?_
  refine lv_iconst (v := 2) hx hb d_MO_step_36 (by decide) ?_
  refine lk_goi (lk_runV (As := [.int 0, .int 2]) (C := R_MO) X h (c_MO_fails l D τ ad _ 0 2 (by decide)) ⟨gc_MO_fails, gm_MO_119, gn_MO, gd_MO_fails, by decide, by decide⟩ gi_MO_fails gs_MO_fails ⟨0, 4, _, _, _, lk_w_get (by decide), rfl⟩ rfl hl.1 (Nat.le_of_ble_eq_true rfl) d_MO_step_37 ⟨Nat.zero_le _, Nat.zero_le _⟩) h hA (fun r37 σ37 H locs hk9 h => ?_)
  rw [hk9.2, if_pos rfl] at h
  rw [hk9.1]
  rw [lk_st_st] at h
  generalize hM0 : lk_st M 24 2 0 = M0 at *
  refine lv_if_eq (tgt := 45) hx hb d_MO_step_40 (by decide) (fun _ => ?_) (fun z => absurd z (by decide))
  refine lv_aload_n hx hb d_MO_step_45 rfl (lv_at hl 0 rfl) ?_
  refine mo_get X rfl h 16 (by decide) rfl gf_MO_50 rfl d_MO_step_46 ?_
  refine lv_iload_n hx hb d_MO_step_49 rfl (lv_at hl 1 rfl) ?_
  refine mo_ald X h 13 4 rfl (by decide) (j := t) (by omega) (by decide) d_MO_step_50 ?_
  refine lv_if_ne (tgt := 62) hx hb d_MO_step_51 (by decide) (fun h51 => ?_) (fun h51 => ?_)
  · refine lv_aload_n hx hb d_MO_step_62 rfl (lv_at hl 0 rfl) ?_
    refine mo_get X rfl h 16 (by decide) rfl gf_MO_50 rfl d_MO_step_63 ?_
    refine lv_iload_n hx hb d_MO_step_66 rfl (lv_at hl 1 rfl) ?_
    refine mo_ald X h 13 4 rfl (by decide) (j := t) (by omega) (by decide) d_MO_step_67 ?_
    refine lv_iconst (v := 1) hx hb d_MO_step_68 (by decide) ?_
    refine lv_icmp_ne (tgt := 80) hx hb d_MO_step_69 (by decide) (fun h69 => ?_) (fun h69 => ?_)
    · refine lv_aload_n hx hb d_MO_step_80 rfl (lv_at hl 0 rfl) ?_
      refine lv_iload_n hx hb d_MO_step_81 rfl (lv_at hl 1 rfl) ?_
      refine lk_goi (lk_runV (As := [.int (nI t)]) (C := R_MO) X h (c_MO_holds l D τ ad M0 t p n v rt nq x a b na nb (hpo h51 h69)) ⟨gc_MO_holds, gm_MO_176, gn_MO, gd_MO_holds, by decide, by decide⟩ gi_MO_holds gs_MO_holds ⟨0, 4, _, _, _, lk_w_get (by decide), rfl⟩ rfl hl.1 (Nat.le_of_ble_eq_true rfl) d_MO_step_82 ⟨Nat.zero_le _, Nat.zero_le _⟩) h hA (fun r82 σ82 H locs hk9 h => ?_)
      rw [hk9.2] at h
      rw [hk9.1]
      have e0 : mm_step0 M0 t p n v rt nq x a b na nb = mm_holds M0 t p n v rt nq x a b na nb := by rw [mm_step0, if_neg h51, if_neg h69]
      refine lv_istore_n hx hb d_MO_step_85 rfl hl (by decide) rfl (fun ls hl => ?_)
      have hl : lv_has ls 3 [(2, .int ((mm_holds M0 t p n v rt nq x a b na nb).1)), (0, .ref (ad 0)), (1, .int (nI t))] := hl
      refine lv_aload_n hx hb d_MO_step_86 rfl (lv_at hl 1 rfl) ?_
      refine mo_get X rfl h 25 (by decide) rfl gf_MO_77 rfl d_MO_step_87 ?_
      refine lv_iconst (v := nI 4) hx hb d_MO_step_90 (by decide) ?_
      refine lv_iload_n hx hb d_MO_step_91 rfl (lv_at hl 2 rfl) ?_
      refine lk_imulN hx hb d_MO_step_92 ?_
      refine lv_dup2_11 hx hb d_MO_step_93 rfl rfl ?_
      refine mo_ald X h 22 16 rfl (by decide) (j := 4 * t) (by omega) (by decide) d_MO_step_94 ?_
      refine lv_iconst (v := 1) hx hb d_MO_step_95 (by decide) ?_
      refine lv_iadd hx hb d_MO_step_96 ?_
      refine mo_ast X h 22 16 rfl (by decide) (j := 4 * t) (v := (((mm_holds M0 t p n v rt nq x a b na nb).2) 22 (4 * t)) + 1) (by omega) (by decide) d_MO_step_97 (fun H locs h => ?_)
      refine lv_iload_n hx hb d_MO_step_98 rfl (lv_at hl 0 rfl) ?_
      refine lv_iconst (v := 1) hx hb d_MO_step_99 (by decide) ?_
      refine lv_icmp_ne (tgt := 117) hx hb d_MO_step_100 (by decide) (fun h100 => ?_) (fun h100 => ?_)
      · refine lv_iload_n hx hb d_MO_step_117 rfl (lv_at hl 0 rfl) ?_
        exact lk_reti X h d_MO_step_118 (by rw [e0, mm_cnt, if_neg h100]; exact ⟨rfl, rfl⟩)
      · refine lv_aload_n hx hb d_MO_step_103 rfl (lv_at hl 1 rfl) ?_
        refine mo_get X rfl h 25 (by decide) rfl gf_MO_77 rfl d_MO_step_104 ?_
        refine lv_iconst (v := nI 4) hx hb d_MO_step_107 (by decide) ?_
        refine lv_iload_n hx hb d_MO_step_108 rfl (lv_at hl 2 rfl) ?_
        refine lk_imulN hx hb d_MO_step_109 ?_
        refine lv_iconst (v := nI 1) hx hb d_MO_step_110 (by decide) ?_
        refine lk_iaddN hx hb d_MO_step_111 ?_
        refine lv_dup2_11 hx hb d_MO_step_112 rfl rfl ?_
        refine mo_ald X h 22 16 rfl (by decide) (j := 4 * t + 1) (by omega) (by decide) d_MO_step_113 ?_
        refine lk_top (((mm_holds M0 t p n v rt nq x a b na nb).2) 22 (4 * t + 1)) (lk_st_p (by omega)) ?_
        refine lv_iconst (v := 1) hx hb d_MO_step_114 (by decide) ?_
        refine lv_iadd hx hb d_MO_step_115 ?_
        refine mo_ast X h 22 16 rfl (by decide) (j := 4 * t + 1) (v := (((mm_holds M0 t p n v rt nq x a b na nb).2) 22 (4 * t + 1)) + 1) (by omega) (by decide) d_MO_step_116 (fun H locs h => ?_)
        refine lv_iload_n hx hb d_MO_step_117 rfl (lv_at hl 0 rfl) ?_
        exact lk_reti X h d_MO_step_118 (by rw [e0, mm_cnt, if_pos h100]; exact ⟨rfl, rfl⟩)
    · refine lv_aload_n hx hb d_MO_step_72 rfl (lv_at hl 0 rfl) ?_
      refine lv_iload_n hx hb d_MO_step_73 rfl (lv_at hl 1 rfl) ?_
      refine lk_goi (lk_runV (As := [.int (nI t)]) (C := R_MO) X h (c_MO_locks l D τ ad M0 t p ht hp hpl) ⟨gc_MO_locks, gm_MO_173, gn_MO, gd_MO_locks, by decide, by decide⟩ gi_MO_locks gs_MO_locks ⟨0, 4, _, _, _, lk_w_get (by decide), rfl⟩ rfl hl.1 (Nat.le_of_ble_eq_true rfl) d_MO_step_74 ⟨Nat.zero_le _, Nat.zero_le _⟩) h hA (fun r74 σ74 H locs hk9 h => ?_)
      rw [hk9.2] at h
      rw [hk9.1]
      have e0 : mm_step0 M0 t p n v rt nq x a b na nb = mm_locks M0 t p := by rw [mm_step0, if_neg h51, if_pos h69]
      refine lv_goto (tgt := 85) hx hb d_MO_step_77 (by decide) ?_
      refine lv_istore_n hx hb d_MO_step_85 rfl hl (by decide) rfl (fun ls hl => ?_)
      have hl : lv_has ls 3 [(2, .int ((mm_locks M0 t p).1)), (0, .ref (ad 0)), (1, .int (nI t))] := hl
      refine lv_aload_n hx hb d_MO_step_86 rfl (lv_at hl 1 rfl) ?_
      refine mo_get X rfl h 25 (by decide) rfl gf_MO_77 rfl d_MO_step_87 ?_
      refine lv_iconst (v := nI 4) hx hb d_MO_step_90 (by decide) ?_
      refine lv_iload_n hx hb d_MO_step_91 rfl (lv_at hl 2 rfl) ?_
      refine lk_imulN hx hb d_MO_step_92 ?_
      refine lv_dup2_11 hx hb d_MO_step_93 rfl rfl ?_
      refine mo_ald X h 22 16 rfl (by decide) (j := 4 * t) (by omega) (by decide) d_MO_step_94 ?_
      refine lv_iconst (v := 1) hx hb d_MO_step_95 (by decide) ?_
      refine lv_iadd hx hb d_MO_step_96 ?_
      refine mo_ast X h 22 16 rfl (by decide) (j := 4 * t) (v := (((mm_locks M0 t p).2) 22 (4 * t)) + 1) (by omega) (by decide) d_MO_step_97 (fun H locs h => ?_)
      refine lv_iload_n hx hb d_MO_step_98 rfl (lv_at hl 0 rfl) ?_
      refine lv_iconst (v := 1) hx hb d_MO_step_99 (by decide) ?_
      refine lv_icmp_ne (tgt := 117) hx hb d_MO_step_100 (by decide) (fun h100 => ?_) (fun h100 => ?_)
      · refine lv_iload_n hx hb d_MO_step_117 rfl (lv_at hl 0 rfl) ?_
        exact lk_reti X h d_MO_step_118 (by rw [e0, mm_cnt, if_neg h100]; exact ⟨rfl, rfl⟩)
      · refine lv_aload_n hx hb d_MO_step_103 rfl (lv_at hl 1 rfl) ?_
        refine mo_get X rfl h 25 (by decide) rfl gf_MO_77 rfl d_MO_step_104 ?_
        refine lv_iconst (v := nI 4) hx hb d_MO_step_107 (by decide) ?_
        refine lv_iload_n hx hb d_MO_step_108 rfl (lv_at hl 2 rfl) ?_
        refine lk_imulN hx hb d_MO_step_109 ?_
        refine lv_iconst (v := nI 1) hx hb d_MO_step_110 (by decide) ?_
        refine lk_iaddN hx hb d_MO_step_111 ?_
        refine lv_dup2_11 hx hb d_MO_step_112 rfl rfl ?_
        refine mo_ald X h 22 16 rfl (by decide) (j := 4 * t + 1) (by omega) (by decide) d_MO_step_113 ?_
        refine lk_top (((mm_locks M0 t p).2) 22 (4 * t + 1)) (lk_st_p (by omega)) ?_
        refine lv_iconst (v := 1) hx hb d_MO_step_114 (by decide) ?_
        refine lv_iadd hx hb d_MO_step_115 ?_
        refine mo_ast X h 22 16 rfl (by decide) (j := 4 * t + 1) (v := (((mm_locks M0 t p).2) 22 (4 * t + 1)) + 1) (by omega) (by decide) d_MO_step_116 (fun H locs h => ?_)
        refine lv_iload_n hx hb d_MO_step_117 rfl (lv_at hl 0 rfl) ?_
        exact lk_reti X h d_MO_step_118 (by rw [e0, mm_cnt, if_pos h100]; exact ⟨rfl, rfl⟩)
  · refine lv_aload_n hx hb d_MO_step_54 rfl (lv_at hl 0 rfl) ?_
    refine lv_iload_n hx hb d_MO_step_55 rfl (lv_at hl 1 rfl) ?_
    refine lk_goi (lk_runV (As := [.int (nI t)]) (C := R_MO) X h (c_MO_searches l D τ ad M0 t p n v rt ht hp hpl hrt hr0 (fun z => let ⟨q1, q2, q3, q4, _⟩ := hok z; ⟨q1, q2, q3, q4⟩)) ⟨gc_MO_searches, gm_MO_170, gn_MO, gd_MO_searches, by decide, by decide⟩ gi_MO_searches gs_MO_searches ⟨0, 4, _, _, _, lk_w_get (by decide), rfl⟩ rfl hl.1 (Nat.le_of_ble_eq_true rfl) d_MO_step_56 ⟨Nat.zero_le _, Nat.zero_le _⟩) h hA (fun r56 σ56 H locs hk9 h => ?_)
    rw [hk9.2] at h
    rw [hk9.1]
    have e0 : mm_step0 M0 t p n v rt nq x a b na nb = mm_searches M0 t p n v rt := by rw [mm_step0, if_pos h51]
    refine lv_goto (tgt := 85) hx hb d_MO_step_59 (by decide) ?_
    refine lv_istore_n hx hb d_MO_step_85 rfl hl (by decide) rfl (fun ls hl => ?_)
    have hl : lv_has ls 3 [(2, .int ((mm_searches M0 t p n v rt).1)), (0, .ref (ad 0)), (1, .int (nI t))] := hl
    refine lv_aload_n hx hb d_MO_step_86 rfl (lv_at hl 1 rfl) ?_
    refine mo_get X rfl h 25 (by decide) rfl gf_MO_77 rfl d_MO_step_87 ?_
    refine lv_iconst (v := nI 4) hx hb d_MO_step_90 (by decide) ?_
    refine lv_iload_n hx hb d_MO_step_91 rfl (lv_at hl 2 rfl) ?_
    refine lk_imulN hx hb d_MO_step_92 ?_
    refine lv_dup2_11 hx hb d_MO_step_93 rfl rfl ?_
    refine mo_ald X h 22 16 rfl (by decide) (j := 4 * t) (by omega) (by decide) d_MO_step_94 ?_
    refine lv_iconst (v := 1) hx hb d_MO_step_95 (by decide) ?_
    refine lv_iadd hx hb d_MO_step_96 ?_
    refine mo_ast X h 22 16 rfl (by decide) (j := 4 * t) (v := (((mm_searches M0 t p n v rt).2) 22 (4 * t)) + 1) (by omega) (by decide) d_MO_step_97 (fun H locs h => ?_)
    refine lv_iload_n hx hb d_MO_step_98 rfl (lv_at hl 0 rfl) ?_
    refine lv_iconst (v := 1) hx hb d_MO_step_99 (by decide) ?_
    refine lv_icmp_ne (tgt := 117) hx hb d_MO_step_100 (by decide) (fun h100 => ?_) (fun h100 => ?_)
    · refine lv_iload_n hx hb d_MO_step_117 rfl (lv_at hl 0 rfl) ?_
      exact lk_reti X h d_MO_step_118 (by rw [e0, mm_cnt, if_neg h100]; exact ⟨rfl, rfl⟩)
    · refine lv_aload_n hx hb d_MO_step_103 rfl (lv_at hl 1 rfl) ?_
      refine mo_get X rfl h 25 (by decide) rfl gf_MO_77 rfl d_MO_step_104 ?_
      refine lv_iconst (v := nI 4) hx hb d_MO_step_107 (by decide) ?_
      refine lv_iload_n hx hb d_MO_step_108 rfl (lv_at hl 2 rfl) ?_
      refine lk_imulN hx hb d_MO_step_109 ?_
      refine lv_iconst (v := nI 1) hx hb d_MO_step_110 (by decide) ?_
      refine lk_iaddN hx hb d_MO_step_111 ?_
      refine lv_dup2_11 hx hb d_MO_step_112 rfl rfl ?_
      refine mo_ald X h 22 16 rfl (by decide) (j := 4 * t + 1) (by omega) (by decide) d_MO_step_113 ?_
      refine lk_top (((mm_searches M0 t p n v rt).2) 22 (4 * t + 1)) (lk_st_p (by omega)) ?_
      refine lv_iconst (v := 1) hx hb d_MO_step_114 (by decide) ?_
      refine lv_iadd hx hb d_MO_step_115 ?_
      refine mo_ast X h 22 16 rfl (by decide) (j := 4 * t + 1) (v := (((mm_searches M0 t p n v rt).2) 22 (4 * t + 1)) + 1) (by omega) (by decide) d_MO_step_116 (fun H locs h => ?_)
      refine lv_iload_n hx hb d_MO_step_117 rfl (lv_at hl 0 rfl) ?_
      exact lk_reti X h d_MO_step_118 (by rw [e0, mm_cnt, if_pos h100]; exact ⟨rfl, rfl⟩)
