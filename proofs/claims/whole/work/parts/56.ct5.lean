theorem cc_du_f {σ : lk_M} {q f i : Nat} {x : Int32} (h0 : f ≠ 0) (h9 : f ≠ 9) : cc_du σ q x f i = σ f i := by
  unfold cc_du
  rw [lk_st_f h0, lk_st_f h9]
theorem cc_die_f {σ : lk_M} {p t n f i : Nat} (h0 : f ≠ 0) (h9 : f ≠ 9) (h10 : f ≠ 10) (h24 : f ≠ 24) : cc_die σ p t n f i = σ f i := by
  unfold cc_die
  rw [cc_du_f h0 h9, lk_lq_f h10 h24]
theorem cc_die_r {σ : lk_M} {p t n : Nat} : cc_die σ p t n 24 0 = σ 24 0 := by
  unfold cc_die
  rw [cc_du_f (by decide) (by decide), lk_lq_r]
theorem lk_lq_q {σ : lk_M} {x : Int32} {n : Nat} : lk_lq σ x n 24 1 = nI (lk_cmp (σ 10) x n).2 := by
  unfold lk_lq
  simp only [lk_up_eq, upd]
  simp
theorem cc_die_q {σ : lk_M} {p t n : Nat} : cc_die σ p t n 24 1 = nI (lk_cmp (σ 10) (nI p) n).2 := by
  unfold cc_die
  rw [cc_du_f (by decide) (by decide), lk_lq_q]
theorem lk_mvF_5o (a b : Nat) {i : Nat} (ha : i ≠ a) (hb : i ≠ b) : ∀ (r na nb : Nat) (σ : lk_M), lk_mvF a b r na nb σ 5 i = σ 5 i := by
  intro r
  induction r with
  | zero => intro na nb σ; rfl
  | succ r ih =>
    intro na nb σ
    show lk_mvF a b r (na + 1) (nb - 1) _ 5 i = _
    rw [ih, lk_del_5, if_neg hb, lk_ins_5, if_neg ha]
theorem lk_mvL_5o (a b : Nat) {i : Nat} (ha : i ≠ a) (hb : i ≠ b) : ∀ (r na nb : Nat) (σ : lk_M), lk_mvL a b r na nb σ 5 i = σ 5 i := by
  intro r
  induction r with
  | zero => intro na nb σ; rfl
  | succ r ih =>
    intro na nb σ
    show lk_mvL a b r (na - 1) (nb + 1) _ 5 i = _
    rw [ih, lk_st_p ha, lk_ins_5, if_neg hb]
theorem lk_mvL_f (a b : Nat) {f i : Nat} (h5 : f ≠ 5) (h7 : f ≠ 7) (h8 : f ≠ 8) : ∀ (r na nb : Nat) (σ : lk_M), lk_mvL a b r na nb σ f i = σ f i := by
  intro r
  induction r with
  | zero => intro na nb σ; rfl
  | succ r ih =>
    intro na nb σ
    show lk_mvL a b r (na - 1) (nb + 1) _ f i = _
    rw [ih, lk_st_f h5, lk_ins_f h5 h7 h8]
theorem lk_shr_5o (σ : lk_M) (a b na nb : Nat) {i : Nat} (ha : i ≠ a) (hb : i ≠ b) : lk_shr σ a b na nb 5 i = σ 5 i := by
  unfold lk_shr
  rw [lk_mvL_5o a b ha hb, lk_mvF_5o a b ha hb]
theorem lk_shr_f (σ : lk_M) (a b na nb : Nat) {f i : Nat} (h5 : f ≠ 5) (h7 : f ≠ 7) (h8 : f ≠ 8) : lk_shr σ a b na nb f i = σ f i := by
  unfold lk_shr
  rw [lk_mvL_f a b h5 h7 h8, lk_mvF_f a b h5 h7 h8]
noncomputable def cc_merge (M : lk_M) (t p n i a b na nb rt nq : Nat) : lk_M :=
  if n - 1 = 1 then cc_shrinks (lk_st (lk_del (cc_die (cc_take M a b na nb) b t nq) p i n) 8 (5 * p + i) (nI a)) t p rt (lk_cmp (M 10) (nI b) nq).2
  else lk_st (lk_del (cc_die (cc_take M a b na nb) b t nq) p i n) 8 (5 * p + i) (nI a)
noncomputable def cc_joins (M : lk_M) (t p n x a b na nb rt nq c i : Nat) : Int32 × lk_M :=
  if M 0 x ≠ 1 ∨ ¬ c < n ∨ n = 1 then (2, cc_fin M t 0) else if M 6 a ≠ -1 ∨ M 6 b ≠ -1 then (1, M) else if M 3 a ≠ M 7 (5 * p + i) ∨ M 3 b ≠ M 7 (5 * p + i + 1) then (2, cc_fin M t 0)
  else if 4 < na + nb then (2, cc_fin (lk_st (mm_bal M a b na nb) 7 (5 * p + i) (lk_shr M a b na nb 7 (5 * a + (na + nb + 1) / 2 - 1))) t 1) else (2, cc_fin (cc_merge M t p n i a b na nb rt nq) t 1)
set_option maxRecDepth 20000 in
theorem c_LT_join (l : Launch) (D : va_G) (τ : Nat → ClassId) (ad : Nat → Nat) (M : lk_M) (t p n x a b na nb rt nq c i : Nat) (ht : t < 4) (hp : p < 24) (hx2 : x < 24) (habt : M 18 t = nI x) (hc : M 5 p = nI n) (hn1 : 1 ≤ n) (hn : n ≤ 4) (hrt : rt < 24) (hr0 : M 24 0 = nI rt) (hnq : nq ≤ 12) (hq0 : M 24 1 = nI nq) (hch : lk_ch M p n (nI x) = c) (hji : lk_ji c n = i) (hpr : c < n → 2 ≤ n → M 8 (5 * p + i) = nI a ∧ M 8 (5 * p + i + 1) = nI b ∧ a < 24 ∧ b < 24 ∧ a ≠ b ∧ a ≠ p ∧ b ≠ p ∧ M 5 a = nI na ∧ M 5 b = nI nb ∧ na ≤ 4 ∧ nb ≤ 4) : lk_Ci l D τ 88 ad (lk_ce τ ad) y_LT_join b_LT_join 7 (.int) 3 69 [.ref (ad 0), .ref (ad (80 + t)), .ref (ad (5 + p))] M (fun r M1 => r = (cc_joins M t p n x a b na nb rt nq c i).1 ∧ M1 = (cc_joins M t p n x a b na nb rt nq c i).2) := by
  refine lk_openi (by decide +kernel) (Nat.le_of_ble_eq_true rfl) ?_
  intro pg en s m args below meth cd ls A X h hA hl
  obtain ⟨hx, hb, -⟩ := id X
  have hl : lv_has ls 7 [(0, .ref (ad 0)), (1, .ref (ad (80 + t))), (2, .ref (ad (5 + p)))] := hl
  refine lv_aload_n hx hb d_LT_join_0 rfl (lv_at hl 2 rfl) ?_
  refine lv_aload_n hx hb d_LT_join_1 rfl (lv_at hl 1 rfl) ?_
  refine ct_get X h (q0 := 80 + t) (by omega) (lk_ce_t (by omega)) rfl gl_TA 9 (by decide) rfl gf_LT_172 rfl d_LT_join_2 ?_
  refine lk_top (nI x) (habt) ?_
  refine lk_goi (lk_runV (As := [.int (nI x)]) (C := R_ND) X h (c_ND_entryOfChild l D τ ad M p n (by omega) hc (by omega) (nI x)) ⟨gc_ND_entryOfChild, gm_LT_262, gn_ND, gd_ND_entryOfChild, by decide, by decide⟩ gi_ND_entryOfChild gs_ND_entryOfChild ⟨5 + p, 1, _, _, _, by rw [lk_w_get (by omega), lk_ce_n (by omega)], rfl⟩ rfl hl.1 (Nat.le_of_ble_eq_true rfl) d_LT_join_5 ⟨Nat.zero_le _, Nat.zero_le _⟩) h hA (fun r5 σ5 H locs hk9 h => ?_)
  rw [hk9.2] at h
  rw [hk9.1, hch]
  by_cases hcn : c < n
  · rw [show lk_nn c n = nI c from if_pos hcn]
    refine lv_istore_n hx hb d_LT_join_8 rfl hl (by decide) rfl (fun ls hl => ?_)
    have hl : lv_has ls 7 [(3, .int (nI c)), (0, .ref (ad 0)), (1, .ref (ad (80 + t))), (2, .ref (ad (5 + p)))] := hl
    refine lv_aload_n hx hb d_LT_join_9 rfl (lv_at hl 1 rfl) ?_
    refine lv_aload_n hx hb d_LT_join_10 rfl (lv_at hl 2 rfl) ?_
    refine ct_get X h (q0 := 80 + t) (by omega) (lk_ce_t (by omega)) rfl gl_TA 9 (by decide) rfl gf_LT_172 rfl d_LT_join_11 ?_
    refine lk_top (nI x) (habt) ?_
    refine lk_goq (lk_runV (As := [.int (nI x)]) (C := R_LT) X h (c_LT_nodeAt l D τ ad _ x hx2) ⟨gc_LT_nodeAt, gm_LT_148, gn_LT, gd_LT_nodeAt, by decide, by decide⟩ gi_LT_nodeAt gs_LT_nodeAt ⟨0, 0, _, _, _, lk_w_get (by decide), rfl⟩ rfl hl.1 (Nat.le_of_ble_eq_true rfl) d_LT_join_14 ⟨Nat.zero_le _, Nat.zero_le _⟩) h hA (fun r14 σ14 H locs hk9 h => ?_)
    rw [hk9.2] at h
    rw [hk9.1, show va_rf (some (ad (5 + x))) = .ref (ad (5 + x)) from rfl]
    refine ct_get X h (q0 := 5 + x) (by omega) (lk_ce_n (by omega)) rfl gl_ND 4 (by decide) rfl gf_LT_22 rfl d_LT_join_17 ?_
    refine lv_iconst (v := 1) hx hb d_LT_join_20 (by decide) ?_
    refine lv_icmp_ne (tgt := 37) hx hb d_LT_join_21 (by decide) (fun h1 => ?_) (fun h1 => ?_)
    · refine lv_aload_n hx hb d_LT_join_37 rfl (lv_at hl 1 rfl) ?_
      refine lv_aload_n hx hb d_LT_join_38 rfl (lv_at hl 2 rfl) ?_
      refine lv_iconst (v := 0) hx hb d_LT_join_39 (by decide) ?_
      refine lk_goi (lk_runV (As := [.ref (ad (80 + t)), .int 0]) (C := R_LT) X h (c_LT_finish l D τ ad _ t ht 0) ⟨gc_LT_finish, gm_LT_175, gn_LT, gd_LT_finish, by decide, by decide⟩ gi_LT_finish gs_LT_finish ⟨0, 0, _, _, _, lk_w_get (by decide), rfl⟩ rfl hl.1 (Nat.le_of_ble_eq_true rfl) d_LT_join_40 ⟨Nat.zero_le _, Nat.zero_le _⟩) h hA (fun r40 σ40 H locs hk9 h => ?_)
      rw [hk9.2] at h
      rw [hk9.1]
      exact lk_reti X h d_LT_join_43 (by rw [cc_joins, if_pos (Or.inl h1)]; exact ⟨rfl, rfl⟩)
    · refine lv_iload_n hx hb d_LT_join_24 rfl (lv_at hl 0 rfl) ?_
      refine lv_iconst (v := (-1)) hx hb d_LT_join_25 (by decide) ?_
      refine lv_icmp_eq (tgt := 37) hx hb d_LT_join_26 (by decide) (fun h2 => ?_) (fun h2 => ?_)
      · exact absurd h2 (lk_nI_m1 (by omega))
      · refine lv_aload_n hx hb d_LT_join_29 rfl (lv_at hl 3 rfl) ?_
        refine ct_get X h (q0 := 5 + p) (by omega) (lk_ce_n (by omega)) rfl gl_ND 3 (by decide) rfl gf_LT_142 rfl d_LT_join_30 ?_
        refine lk_top (nI n) (hc) ?_
        refine lv_iconst (v := nI 2) hx hb d_LT_join_33 (by decide) ?_
        refine lk_cN_ge (tgt := 44) hx hb (by omega) (by omega) d_LT_join_34 (by decide) (fun h3 => ?_) (fun h3 => ?_)
        · obtain ⟨p1, p2, ha, hb2, hab, hap, hbp, h5a, h5b, hna, hnb⟩ := hpr hcn (by omega)
          refine lv_iload_n hx hb d_LT_join_44 rfl (lv_at hl 0 rfl) ?_
          refine lv_iconst (v := nI 1) hx hb d_LT_join_45 (by decide) ?_
          refine lk_iaddN hx hb d_LT_join_46 ?_
          refine lv_aload_n hx hb d_LT_join_47 rfl (lv_at hl 3 rfl) ?_
          refine ct_get X h (q0 := 5 + p) (by omega) (lk_ce_n (by omega)) rfl gl_ND 3 (by decide) rfl gf_LT_142 rfl d_LT_join_48 ?_
          refine lk_top (nI n) (hc) ?_
          refine lk_cN_ge (tgt := 58) hx hb (by omega) (by omega) d_LT_join_51 (by decide) (fun h4 => ?_) (fun h4 => ?_)
          · have ei : c - 1 = i := by rw [← hji]; exact (if_pos (by omega)).symm
            refine lv_iload_n hx hb d_LT_join_58 rfl (lv_at hl 0 rfl) ?_
            refine lv_iconst (v := nI 1) hx hb d_LT_join_59 (by decide) ?_
            refine lk_isubN hx hb (by omega) d_LT_join_60 ?_
            rw [ei]
            have hi1 : i + 1 < n := by omega
            refine lv_istore hx hb d_LT_join_61 hl (by decide) rfl (fun ls hl => ?_)
            have hl : lv_has ls 7 [(4, .int (nI i)), (3, .int (nI c)), (0, .ref (ad 0)), (1, .ref (ad (80 + t))), (2, .ref (ad (5 + p)))] := hl
            refine lv_aload_n hx hb d_LT_join_63 rfl (lv_at hl 2 rfl) ?_
            refine lv_aload_n hx hb d_LT_join_64 rfl (lv_at hl 4 rfl) ?_
            refine ct_get X h (q0 := 5 + p) (by omega) (lk_ce_n (by omega)) rfl gl_ND 2 (by decide) rfl gf_LT_154 rfl d_LT_join_65 ?_
            refine lv_iload hx hb d_LT_join_68 (lv_at hl 0 rfl) ?_
            refine nd_ald8 X h (q := p) (j := i) (by omega) (by omega) d_LT_join_70 ?_
            refine lk_top (nI a) (p1) ?_
            refine lk_goq (lk_runV (As := [.int (nI a)]) (C := R_LT) X h (c_LT_nodeAt l D τ ad _ a ha) ⟨gc_LT_nodeAt, gm_LT_148, gn_LT, gd_LT_nodeAt, by decide, by decide⟩ gi_LT_nodeAt gs_LT_nodeAt ⟨0, 0, _, _, _, lk_w_get (by decide), rfl⟩ rfl hl.1 (Nat.le_of_ble_eq_true rfl) d_LT_join_71 ⟨Nat.zero_le _, Nat.zero_le _⟩) h hA (fun r71 σ71 H locs hk9 h => ?_)
            rw [hk9.2] at h
            rw [hk9.1, show va_rf (some (ad (5 + a))) = .ref (ad (5 + a)) from rfl]
            refine lv_astore hx hb d_LT_join_74 hl (by decide) rfl (fun ls hl => ?_)
            have hl : lv_has ls 7 [(5, .ref (ad (5 + a))), (4, .int (nI i)), (3, .int (nI c)), (0, .ref (ad 0)), (1, .ref (ad (80 + t))), (2, .ref (ad (5 + p)))] := hl
            refine lv_aload_n hx hb d_LT_join_76 rfl (lv_at hl 3 rfl) ?_
            refine lv_aload_n hx hb d_LT_join_77 rfl (lv_at hl 5 rfl) ?_
            refine ct_get X h (q0 := 5 + p) (by omega) (lk_ce_n (by omega)) rfl gl_ND 2 (by decide) rfl gf_LT_154 rfl d_LT_join_78 ?_
            refine lv_iload hx hb d_LT_join_81 (lv_at hl 1 rfl) ?_
            refine lv_iconst (v := nI 1) hx hb d_LT_join_83 (by decide) ?_
            refine lk_iaddN hx hb d_LT_join_84 ?_
            refine nd_ald8 X h (q := p) (j := i + 1) (by omega) (by omega) d_LT_join_85 ?_
            refine lk_top (nI b) (p2) ?_
            refine lk_goq (lk_runV (As := [.int (nI b)]) (C := R_LT) X h (c_LT_nodeAt l D τ ad _ b hb2) ⟨gc_LT_nodeAt, gm_LT_148, gn_LT, gd_LT_nodeAt, by decide, by decide⟩ gi_LT_nodeAt gs_LT_nodeAt ⟨0, 0, _, _, _, lk_w_get (by decide), rfl⟩ rfl hl.1 (Nat.le_of_ble_eq_true rfl) d_LT_join_86 ⟨Nat.zero_le _, Nat.zero_le _⟩) h hA (fun r86 σ86 H locs hk9 h => ?_)
            rw [hk9.2] at h
            rw [hk9.1, show va_rf (some (ad (5 + b))) = .ref (ad (5 + b)) from rfl]
            refine lv_astore hx hb d_LT_join_89 hl (by decide) rfl (fun ls hl => ?_)
            have hl : lv_has ls 7 [(6, .ref (ad (5 + b))), (5, .ref (ad (5 + a))), (4, .int (nI i)), (3, .int (nI c)), (0, .ref (ad 0)), (1, .ref (ad (80 + t))), (2, .ref (ad (5 + p)))] := hl
            refine lv_aload hx hb d_LT_join_91 (lv_at hl 1 rfl) ?_
            refine ct_get X h (q0 := 5 + a) (by omega) (lk_ce_n (by omega)) rfl gl_ND 9 (by decide) rfl gf_LT_145 rfl d_LT_join_93 ?_
            refine lv_iconst (v := (-1)) hx hb d_LT_join_96 (by decide) ?_
            refine lv_icmp_ne (tgt := 109) hx hb d_LT_join_97 (by decide) (fun h5 => ?_) (fun h5 => ?_)
            · refine lv_iconst (v := 1) hx hb d_LT_join_109 (by decide) ?_
              exact lk_reti X h d_LT_join_110 (by rw [cc_joins, if_neg (show ¬ (M 0 x ≠ 1 ∨ ¬ c < n ∨ n = 1) from fun z => z.elim (fun q => q h1) (fun q => q.elim (fun q => q hcn) (fun q => by omega))), if_pos (Or.inl h5)]; exact ⟨rfl, rfl⟩)
            · refine lv_aload hx hb d_LT_join_100 (lv_at hl 0 rfl) ?_
              refine ct_get X h (q0 := 5 + b) (by omega) (lk_ce_n (by omega)) rfl gl_ND 9 (by decide) rfl gf_LT_145 rfl d_LT_join_102 ?_
              refine lv_iconst (v := (-1)) hx hb d_LT_join_105 (by decide) ?_
              refine lv_icmp_eq (tgt := 111) hx hb d_LT_join_106 (by decide) (fun h6 => ?_) (fun h6 => ?_)
              · refine lv_aload hx hb d_LT_join_111 (lv_at hl 1 rfl) ?_
                refine ct_get X h (q0 := 5 + a) (by omega) (lk_ce_n (by omega)) rfl gl_ND 7 (by decide) rfl gf_LT_136 rfl d_LT_join_113 ?_
                refine lv_aload_n hx hb d_LT_join_116 rfl (lv_at hl 6 rfl) ?_
                refine ct_get X h (q0 := 5 + p) (by omega) (lk_ce_n (by omega)) rfl gl_ND 1 (by decide) rfl gf_LT_158 rfl d_LT_join_117 ?_
                refine lv_iload hx hb d_LT_join_120 (lv_at hl 2 rfl) ?_
                refine nd_ald7 X h (q := p) (j := i) (by omega) (by omega) d_LT_join_122 ?_
                refine lv_icmp_ne (tgt := 143) hx hb d_LT_join_123 (by decide) (fun h7 => ?_) (fun h7 => ?_)
                · refine lv_aload_n hx hb d_LT_join_143 rfl (lv_at hl 4 rfl) ?_
                  refine lv_aload_n hx hb d_LT_join_144 rfl (lv_at hl 5 rfl) ?_
                  refine lv_iconst (v := 0) hx hb d_LT_join_145 (by decide) ?_
                  refine lk_goi (lk_runV (As := [.ref (ad (80 + t)), .int 0]) (C := R_LT) X h (c_LT_finish l D τ ad _ t ht 0) ⟨gc_LT_finish, gm_LT_175, gn_LT, gd_LT_finish, by decide, by decide⟩ gi_LT_finish gs_LT_finish ⟨0, 0, _, _, _, lk_w_get (by decide), rfl⟩ rfl hl.1 (Nat.le_of_ble_eq_true rfl) d_LT_join_146 ⟨Nat.zero_le _, Nat.zero_le _⟩) h hA (fun r146 σ146 H locs hk9 h => ?_)
                  rw [hk9.2] at h
                  rw [hk9.1]
                  exact lk_reti X h d_LT_join_149 (by rw [cc_joins, if_neg (show ¬ (M 0 x ≠ 1 ∨ ¬ c < n ∨ n = 1) from fun z => z.elim (fun q => q h1) (fun q => q.elim (fun q => q hcn) (fun q => by omega))), if_neg (show ¬ (M 6 a ≠ -1 ∨ M 6 b ≠ -1) from fun z => z.elim (fun q => q h5) (fun q => q h6)), if_pos (Or.inl h7)]; exact ⟨rfl, rfl⟩)
                · refine lv_aload hx hb d_LT_join_126 (lv_at hl 0 rfl) ?_
                  refine ct_get X h (q0 := 5 + b) (by omega) (lk_ce_n (by omega)) rfl gl_ND 7 (by decide) rfl gf_LT_136 rfl d_LT_join_128 ?_
                  refine lv_aload_n hx hb d_LT_join_131 rfl (lv_at hl 6 rfl) ?_
                  refine ct_get X h (q0 := 5 + p) (by omega) (lk_ce_n (by omega)) rfl gl_ND 1 (by decide) rfl gf_LT_158 rfl d_LT_join_132 ?_
                  refine lv_iload hx hb d_LT_join_135 (lv_at hl 2 rfl) ?_
                  refine lv_iconst (v := nI 1) hx hb d_LT_join_137 (by decide) ?_
                  refine lk_iaddN hx hb d_LT_join_138 ?_
                  refine nd_ald7 X h (q := p) (j := i + 1) (by omega) (by omega) d_LT_join_139 ?_
                  refine lv_icmp_eq (tgt := 150) hx hb d_LT_join_140 (by decide) (fun h8 => ?_) (fun h8 => ?_)
                  · refine lv_aload hx hb d_LT_join_150 (lv_at hl 1 rfl) ?_
                    refine ct_get X h (q0 := 5 + a) (by omega) (lk_ce_n (by omega)) rfl gl_ND 3 (by decide) rfl gf_LT_142 rfl d_LT_join_152 ?_
                    refine lk_top (nI na) (h5a) ?_
                    refine lv_aload hx hb d_LT_join_155 (lv_at hl 0 rfl) ?_
                    refine ct_get X h (q0 := 5 + b) (by omega) (lk_ce_n (by omega)) rfl gl_ND 3 (by decide) rfl gf_LT_142 rfl d_LT_join_157 ?_
                    refine lk_top (nI nb) (h5b) ?_
                    refine lk_iaddN hx hb d_LT_join_160 ?_
                    refine lv_iconst (v := nI 4) hx hb d_LT_join_161 (by decide) ?_
                    refine lk_cN_gt (tgt := 200) hx hb (by omega) (by omega) d_LT_join_162 (by decide) (fun h9 => ?_) (fun h9 => ?_)
                    · refine lv_aload hx hb d_LT_join_200 (lv_at hl 1 rfl) ?_
                      refine lv_aload hx hb d_LT_join_202 (lv_at hl 0 rfl) ?_
                      refine lk_gov (lk_runV (As := [.ref (ad (5 + b))]) (C := R_ND) X h (c_ND_shareWith l D τ ad M a b na nb (by omega) (by omega) hab h5a h5b hna hnb (by omega)) ⟨gc_ND_shareWith, gm_LT_273, gn_ND, gd_ND_shareWith, by decide, by decide⟩ gi_ND_shareWith gs_ND_shareWith ⟨5 + a, 1, _, _, _, by rw [lk_w_get (by omega), lk_ce_n (by omega)], rfl⟩ rfl hl.1 (Nat.le_of_ble_eq_true rfl) d_LT_join_204 ⟨Nat.zero_le _, Nat.zero_le _⟩) h hA (fun σ204 H locs hk9 h => ?_)
                      rw [hk9] at h
                      refine lv_aload_n hx hb d_LT_join_207 rfl (lv_at hl 6 rfl) ?_
                      refine ct_get X h (q0 := 5 + p) (by omega) (lk_ce_n (by omega)) rfl gl_ND 1 (by decide) rfl gf_LT_158 rfl d_LT_join_208 ?_
                      refine lv_iload hx hb d_LT_join_211 (lv_at hl 2 rfl) ?_
                      refine lv_aload hx hb d_LT_join_213 (lv_at hl 1 rfl) ?_
                      refine ct_get X h (q0 := 5 + a) (by omega) (lk_ce_n (by omega)) rfl gl_ND 7 (by decide) rfl gf_LT_136 rfl d_LT_join_215 ?_
                      refine lk_top (lk_shr M a b na nb 7 (5 * a + (na + nb + 1) / 2 - 1)) ((lk_st_f (by decide)).trans lk_st_s) ?_
                      refine nd_ast7 X h (q := p) (j := i) (v := lk_shr M a b na nb 7 (5 * a + (na + nb + 1) / 2 - 1)) (by omega) (by omega) d_LT_join_218 (fun H locs h => ?_)
                      refine lv_aload_n hx hb d_LT_join_219 rfl (lv_at hl 6 rfl) ?_
                      refine ct_get X h (q0 := 5 + p) (by omega) (lk_ce_n (by omega)) rfl gl_ND 3 (by decide) rfl gf_LT_142 rfl d_LT_join_220 ?_
                      refine lk_top (nI n) ((lk_st_f (by decide)).trans ((lk_st_f (by decide)).trans ((lk_st_f (by decide)).trans ((lk_shr_5o M a b na nb (Ne.symm hap) (Ne.symm hbp)).trans hc)))) ?_
                      refine lv_iconst (v := nI 1) hx hb d_LT_join_223 (by decide) ?_
                      refine lk_cN_ne (tgt := 233) hx hb (by omega) (by omega) d_LT_join_224 (by decide) (fun h10 => ?_) (fun h10 => ?_)
                      · refine lv_aload_n hx hb d_LT_join_233 rfl (lv_at hl 4 rfl) ?_
                        refine lv_aload_n hx hb d_LT_join_234 rfl (lv_at hl 5 rfl) ?_
                        refine lv_iconst (v := 1) hx hb d_LT_join_235 (by decide) ?_
                        refine lk_goi (lk_runV (As := [.ref (ad (80 + t)), .int 1]) (C := R_LT) X h (c_LT_finish l D τ ad _ t ht 1) ⟨gc_LT_finish, gm_LT_175, gn_LT, gd_LT_finish, by decide, by decide⟩ gi_LT_finish gs_LT_finish ⟨0, 0, _, _, _, lk_w_get (by decide), rfl⟩ rfl hl.1 (Nat.le_of_ble_eq_true rfl) d_LT_join_236 ⟨Nat.zero_le _, Nat.zero_le _⟩) h hA (fun r236 σ236 H locs hk9 h => ?_)
                        rw [hk9.2] at h
                        rw [hk9.1]
                        exact lk_reti X h d_LT_join_239 (by rw [cc_joins, if_neg (show ¬ (M 0 x ≠ 1 ∨ ¬ c < n ∨ n = 1) from fun z => z.elim (fun q => q h1) (fun q => q.elim (fun q => q hcn) (fun q => by omega))), if_neg (show ¬ (M 6 a ≠ -1 ∨ M 6 b ≠ -1) from fun z => z.elim (fun q => q h5) (fun q => q h6)), if_neg (show ¬ (M 3 a ≠ M 7 (5 * p + i) ∨ M 3 b ≠ M 7 (5 * p + i + 1)) from fun z => z.elim (fun q => q h7) (fun q => q h8)), if_pos (show 4 < na + nb by omega)]; exact ⟨rfl, rfl⟩)
                      · omega
                    · refine lv_aload hx hb d_LT_join_165 (lv_at hl 1 rfl) ?_
                      refine lv_aload hx hb d_LT_join_167 (lv_at hl 0 rfl) ?_
                      refine lk_gov (lk_runV (As := [.ref (ad (5 + b))]) (C := R_ND) X h (c_ND_takeAllOf l D τ ad M a b na nb (by omega) (by omega) hab h5a h5b (by omega)) ⟨gc_ND_takeAllOf, gm_LT_265, gn_ND, gd_ND_takeAllOf, by decide, by decide⟩ gi_ND_takeAllOf gs_ND_takeAllOf ⟨5 + a, 1, _, _, _, by rw [lk_w_get (by omega), lk_ce_n (by omega)], rfl⟩ rfl hl.1 (Nat.le_of_ble_eq_true rfl) d_LT_join_169 ⟨Nat.zero_le _, Nat.zero_le _⟩) h hA (fun σ169 H locs hk9 h => ?_)
                      rw [hk9] at h
                      refine lv_aload_n hx hb d_LT_join_172 rfl (lv_at hl 4 rfl) ?_
                      refine lv_aload hx hb d_LT_join_173 (lv_at hl 0 rfl) ?_
                      refine lv_aload_n hx hb d_LT_join_175 rfl (lv_at hl 5 rfl) ?_
                      refine lk_gov (lk_runV (As := [.ref (ad (5 + b)), .ref (ad (80 + t))]) (C := R_LT) X h (c_LT_die l D τ ad (cc_take M a b na nb) b t nq hb2 ht (((lk_st_f (by decide)).trans ((lk_st_f (by decide)).trans (lk_mvF_f a b (by decide) (by decide) (by decide) nb na nb M))).trans hq0) hnq) ⟨gc_LT_die, gm_LT_269, gn_LT, gd_LT_die, by decide, by decide⟩ gi_LT_die gs_LT_die ⟨0, 0, _, _, _, lk_w_get (by decide), rfl⟩ rfl hl.1 (Nat.le_of_ble_eq_true rfl) d_LT_join_176 ⟨Nat.zero_le _, Nat.zero_le _⟩) h hA (fun σ176 H locs hk9 h => ?_)
                      rw [hk9] at h
                      have hc5 : (cc_die (cc_take M a b na nb) b t nq) 5 p = nI n := (cc_die_f (by decide) (by decide) (by decide) (by decide)).trans ((lk_st_f (by decide)).trans ((lk_st_f (by decide)).trans ((lk_mvF_5o a b (Ne.symm hap) (Ne.symm hbp) nb na nb M).trans hc)))
                      refine lv_aload_n hx hb d_LT_join_179 rfl (lv_at hl 6 rfl) ?_
                      refine lv_iload hx hb d_LT_join_180 (lv_at hl 2 rfl) ?_
                      refine lk_gov (lk_runV (As := [.int (nI i)]) (C := R_ND) X h (c_ND_delete l D τ ad _ p i n (by omega) hc5 (by omega) (by omega)) ⟨gc_ND_delete, gm_LT_256, gn_ND, gd_ND_delete, by decide, by decide⟩ gi_ND_delete gs_ND_delete ⟨5 + p, 1, _, _, _, by rw [lk_w_get (by omega), lk_ce_n (by omega)], rfl⟩ rfl hl.1 (Nat.le_of_ble_eq_true rfl) d_LT_join_182 ⟨Nat.zero_le _, Nat.zero_le _⟩) h hA (fun σ182 H locs hk9 h => ?_)
                      rw [hk9] at h
                      refine lv_aload_n hx hb d_LT_join_185 rfl (lv_at hl 6 rfl) ?_
                      refine ct_get X h (q0 := 5 + p) (by omega) (lk_ce_n (by omega)) rfl gl_ND 2 (by decide) rfl gf_LT_154 rfl d_LT_join_186 ?_
                      refine lv_iload hx hb d_LT_join_189 (lv_at hl 2 rfl) ?_
                      refine lv_aload hx hb d_LT_join_191 (lv_at hl 1 rfl) ?_
                      refine ct_get X h (q0 := 5 + a) (by omega) (lk_ce_n (by omega)) rfl gl_ND 0 (by decide) rfl gf_LT_198 rfl d_LT_join_193 ?_
                      refine lk_top (nI a) (lk_num_lt (by omega)) ?_
                      refine nd_ast8 X h (q := p) (j := i) (v := nI a) (by omega) (by omega) d_LT_join_196 (fun H locs h => ?_)
                      refine lv_goto (tgt := 219) hx hb d_LT_join_197 (by decide) ?_
                      refine lv_aload_n hx hb d_LT_join_219 rfl (lv_at hl 6 rfl) ?_
                      refine ct_get X h (q0 := 5 + p) (by omega) (lk_ce_n (by omega)) rfl gl_ND 3 (by decide) rfl gf_LT_142 rfl d_LT_join_220 ?_
                      refine lk_top (nI (n - 1)) ((lk_st_f (by decide)).trans (lk_del_5.trans (if_pos rfl))) ?_
                      refine lv_iconst (v := nI 1) hx hb d_LT_join_223 (by decide) ?_
                      refine lk_cN_ne (tgt := 233) hx hb (by omega) (by omega) d_LT_join_224 (by decide) (fun h10 => ?_) (fun h10 => ?_)
                      · refine lv_aload_n hx hb d_LT_join_233 rfl (lv_at hl 4 rfl) ?_
                        refine lv_aload_n hx hb d_LT_join_234 rfl (lv_at hl 5 rfl) ?_
                        refine lv_iconst (v := 1) hx hb d_LT_join_235 (by decide) ?_
                        refine lk_goi (lk_runV (As := [.ref (ad (80 + t)), .int 1]) (C := R_LT) X h (c_LT_finish l D τ ad _ t ht 1) ⟨gc_LT_finish, gm_LT_175, gn_LT, gd_LT_finish, by decide, by decide⟩ gi_LT_finish gs_LT_finish ⟨0, 0, _, _, _, lk_w_get (by decide), rfl⟩ rfl hl.1 (Nat.le_of_ble_eq_true rfl) d_LT_join_236 ⟨Nat.zero_le _, Nat.zero_le _⟩) h hA (fun r236 σ236 H locs hk9 h => ?_)
                        rw [hk9.2] at h
                        rw [hk9.1]
                        exact lk_reti X h d_LT_join_239 (by rw [cc_joins, if_neg (show ¬ (M 0 x ≠ 1 ∨ ¬ c < n ∨ n = 1) from fun z => z.elim (fun q => q h1) (fun q => q.elim (fun q => q hcn) (fun q => by omega))), if_neg (show ¬ (M 6 a ≠ -1 ∨ M 6 b ≠ -1) from fun z => z.elim (fun q => q h5) (fun q => q h6)), if_neg (show ¬ (M 3 a ≠ M 7 (5 * p + i) ∨ M 3 b ≠ M 7 (5 * p + i + 1)) from fun z => z.elim (fun q => q h7) (fun q => q h8)), if_neg (show ¬ 4 < na + nb by omega), cc_merge, if_neg h10]; exact ⟨rfl, rfl⟩)
                      · have hq9 : (lk_cmp (M 10) (nI b) nq).2 ≤ 12 := Nat.le_trans (lk_cmp_le _ _ _) hnq
                        have e10 : (cc_take M a b na nb) 10 = M 10 := by funext z; exact ((lk_st_f (by decide)).trans ((lk_st_f (by decide)).trans (lk_mvF_f a b (by decide) (by decide) (by decide) nb na nb M)))
                        refine lv_aload_n hx hb d_LT_join_227 rfl (lv_at hl 4 rfl) ?_
                        refine lv_aload_n hx hb d_LT_join_228 rfl (lv_at hl 6 rfl) ?_
                        refine lv_aload_n hx hb d_LT_join_229 rfl (lv_at hl 5 rfl) ?_
                        refine lk_gov (lk_runV (As := [.ref (ad (5 + p)), .ref (ad (80 + t))]) (C := R_LT) X h (c_LT_lowerOrQueue l D τ ad _ t p rt (lk_cmp (M 10) (nI b) nq).2 ht hp hrt ((lk_st_f (by decide)).trans ((lk_del_f (by decide) (by decide) (by decide)).trans (cc_die_r.trans (((lk_st_f (by decide)).trans ((lk_st_f (by decide)).trans (lk_mvF_f a b (by decide) (by decide) (by decide) nb na nb M))).trans hr0)))) hq9 ((lk_st_f (by decide)).trans ((lk_del_f (by decide) (by decide) (by decide)).trans (cc_die_q.trans (by rw [e10]))))) ⟨gc_LT_lowerOrQueue, gm_LT_276, gn_LT, gd_LT_lowerOrQueue, by decide, by decide⟩ gi_LT_lowerOrQueue gs_LT_lowerOrQueue ⟨0, 0, _, _, _, lk_w_get (by decide), rfl⟩ rfl hl.1 (Nat.le_of_ble_eq_true rfl) d_LT_join_230 ⟨Nat.zero_le _, Nat.zero_le _⟩) h hA (fun σ230 H locs hk9 h => ?_)
                        rw [hk9] at h
                        refine lv_aload_n hx hb d_LT_join_233 rfl (lv_at hl 4 rfl) ?_
                        refine lv_aload_n hx hb d_LT_join_234 rfl (lv_at hl 5 rfl) ?_
                        refine lv_iconst (v := 1) hx hb d_LT_join_235 (by decide) ?_
                        refine lk_goi (lk_runV (As := [.ref (ad (80 + t)), .int 1]) (C := R_LT) X h (c_LT_finish l D τ ad _ t ht 1) ⟨gc_LT_finish, gm_LT_175, gn_LT, gd_LT_finish, by decide, by decide⟩ gi_LT_finish gs_LT_finish ⟨0, 0, _, _, _, lk_w_get (by decide), rfl⟩ rfl hl.1 (Nat.le_of_ble_eq_true rfl) d_LT_join_236 ⟨Nat.zero_le _, Nat.zero_le _⟩) h hA (fun r236 σ236 H locs hk9 h => ?_)
                        rw [hk9.2] at h
                        rw [hk9.1]
                        exact lk_reti X h d_LT_join_239 (by rw [cc_joins, if_neg (show ¬ (M 0 x ≠ 1 ∨ ¬ c < n ∨ n = 1) from fun z => z.elim (fun q => q h1) (fun q => q.elim (fun q => q hcn) (fun q => by omega))), if_neg (show ¬ (M 6 a ≠ -1 ∨ M 6 b ≠ -1) from fun z => z.elim (fun q => q h5) (fun q => q h6)), if_neg (show ¬ (M 3 a ≠ M 7 (5 * p + i) ∨ M 3 b ≠ M 7 (5 * p + i + 1)) from fun z => z.elim (fun q => q h7) (fun q => q h8)), if_neg (show ¬ 4 < na + nb by omega), cc_merge, if_pos h10]; exact ⟨rfl, rfl⟩)
                  · refine lv_aload_n hx hb d_LT_join_143 rfl (lv_at hl 4 rfl) ?_
                    refine lv_aload_n hx hb d_LT_join_144 rfl (lv_at hl 5 rfl) ?_
                    refine lv_iconst (v := 0) hx hb d_LT_join_145 (by decide) ?_
                    refine lk_goi (lk_runV (As := [.ref (ad (80 + t)), .int 0]) (C := R_LT) X h (c_LT_finish l D τ ad _ t ht 0) ⟨gc_LT_finish, gm_LT_175, gn_LT, gd_LT_finish, by decide, by decide⟩ gi_LT_finish gs_LT_finish ⟨0, 0, _, _, _, lk_w_get (by decide), rfl⟩ rfl hl.1 (Nat.le_of_ble_eq_true rfl) d_LT_join_146 ⟨Nat.zero_le _, Nat.zero_le _⟩) h hA (fun r146 σ146 H locs hk9 h => ?_)
                    rw [hk9.2] at h
                    rw [hk9.1]
                    exact lk_reti X h d_LT_join_149 (by rw [cc_joins, if_neg (show ¬ (M 0 x ≠ 1 ∨ ¬ c < n ∨ n = 1) from fun z => z.elim (fun q => q h1) (fun q => q.elim (fun q => q hcn) (fun q => by omega))), if_neg (show ¬ (M 6 a ≠ -1 ∨ M 6 b ≠ -1) from fun z => z.elim (fun q => q h5) (fun q => q h6)), if_pos (show M 3 a ≠ M 7 (5 * p + i) ∨ M 3 b ≠ M 7 (5 * p + i + 1) from Or.inr h8)]; exact ⟨rfl, rfl⟩)
              · refine lv_iconst (v := 1) hx hb d_LT_join_109 (by decide) ?_
                exact lk_reti X h d_LT_join_110 (by rw [cc_joins, if_neg (show ¬ (M 0 x ≠ 1 ∨ ¬ c < n ∨ n = 1) from fun z => z.elim (fun q => q h1) (fun q => q.elim (fun q => q hcn) (fun q => by omega))), if_pos (Or.inr h6)]; exact ⟨rfl, rfl⟩)
          · have ei : c = i := by rw [← hji]; exact (if_neg (by omega)).symm
            refine lv_iload_n hx hb d_LT_join_54 rfl (lv_at hl 0 rfl) ?_
            refine lv_goto (tgt := 61) hx hb d_LT_join_55 (by decide) ?_
            rw [show nI c = nI i by rw [ei]]
            have hi1 : i + 1 < n := by omega
            refine lv_istore hx hb d_LT_join_61 hl (by decide) rfl (fun ls hl => ?_)
            have hl : lv_has ls 7 [(4, .int (nI i)), (3, .int (nI c)), (0, .ref (ad 0)), (1, .ref (ad (80 + t))), (2, .ref (ad (5 + p)))] := hl
            refine lv_aload_n hx hb d_LT_join_63 rfl (lv_at hl 2 rfl) ?_
            refine lv_aload_n hx hb d_LT_join_64 rfl (lv_at hl 4 rfl) ?_
            refine ct_get X h (q0 := 5 + p) (by omega) (lk_ce_n (by omega)) rfl gl_ND 2 (by decide) rfl gf_LT_154 rfl d_LT_join_65 ?_
            refine lv_iload hx hb d_LT_join_68 (lv_at hl 0 rfl) ?_
            refine nd_ald8 X h (q := p) (j := i) (by omega) (by omega) d_LT_join_70 ?_
            refine lk_top (nI a) (p1) ?_
            refine lk_goq (lk_runV (As := [.int (nI a)]) (C := R_LT) X h (c_LT_nodeAt l D τ ad _ a ha) ⟨gc_LT_nodeAt, gm_LT_148, gn_LT, gd_LT_nodeAt, by decide, by decide⟩ gi_LT_nodeAt gs_LT_nodeAt ⟨0, 0, _, _, _, lk_w_get (by decide), rfl⟩ rfl hl.1 (Nat.le_of_ble_eq_true rfl) d_LT_join_71 ⟨Nat.zero_le _, Nat.zero_le _⟩) h hA (fun r71 σ71 H locs hk9 h => ?_)
            rw [hk9.2] at h
            rw [hk9.1, show va_rf (some (ad (5 + a))) = .ref (ad (5 + a)) from rfl]
            refine lv_astore hx hb d_LT_join_74 hl (by decide) rfl (fun ls hl => ?_)
            have hl : lv_has ls 7 [(5, .ref (ad (5 + a))), (4, .int (nI i)), (3, .int (nI c)), (0, .ref (ad 0)), (1, .ref (ad (80 + t))), (2, .ref (ad (5 + p)))] := hl
            refine lv_aload_n hx hb d_LT_join_76 rfl (lv_at hl 3 rfl) ?_
            refine lv_aload_n hx hb d_LT_join_77 rfl (lv_at hl 5 rfl) ?_
            refine ct_get X h (q0 := 5 + p) (by omega) (lk_ce_n (by omega)) rfl gl_ND 2 (by decide) rfl gf_LT_154 rfl d_LT_join_78 ?_
            refine lv_iload hx hb d_LT_join_81 (lv_at hl 1 rfl) ?_
            refine lv_iconst (v := nI 1) hx hb d_LT_join_83 (by decide) ?_
            refine lk_iaddN hx hb d_LT_join_84 ?_
            refine nd_ald8 X h (q := p) (j := i + 1) (by omega) (by omega) d_LT_join_85 ?_
            refine lk_top (nI b) (p2) ?_
            refine lk_goq (lk_runV (As := [.int (nI b)]) (C := R_LT) X h (c_LT_nodeAt l D τ ad _ b hb2) ⟨gc_LT_nodeAt, gm_LT_148, gn_LT, gd_LT_nodeAt, by decide, by decide⟩ gi_LT_nodeAt gs_LT_nodeAt ⟨0, 0, _, _, _, lk_w_get (by decide), rfl⟩ rfl hl.1 (Nat.le_of_ble_eq_true rfl) d_LT_join_86 ⟨Nat.zero_le _, Nat.zero_le _⟩) h hA (fun r86 σ86 H locs hk9 h => ?_)
            rw [hk9.2] at h
            rw [hk9.1, show va_rf (some (ad (5 + b))) = .ref (ad (5 + b)) from rfl]
            refine lv_astore hx hb d_LT_join_89 hl (by decide) rfl (fun ls hl => ?_)
            have hl : lv_has ls 7 [(6, .ref (ad (5 + b))), (5, .ref (ad (5 + a))), (4, .int (nI i)), (3, .int (nI c)), (0, .ref (ad 0)), (1, .ref (ad (80 + t))), (2, .ref (ad (5 + p)))] := hl
            refine lv_aload hx hb d_LT_join_91 (lv_at hl 1 rfl) ?_
            refine ct_get X h (q0 := 5 + a) (by omega) (lk_ce_n (by omega)) rfl gl_ND 9 (by decide) rfl gf_LT_145 rfl d_LT_join_93 ?_
            refine lv_iconst (v := (-1)) hx hb d_LT_join_96 (by decide) ?_
            refine lv_icmp_ne (tgt := 109) hx hb d_LT_join_97 (by decide) (fun h5 => ?_) (fun h5 => ?_)
            · refine lv_iconst (v := 1) hx hb d_LT_join_109 (by decide) ?_
              exact lk_reti X h d_LT_join_110 (by rw [cc_joins, if_neg (show ¬ (M 0 x ≠ 1 ∨ ¬ c < n ∨ n = 1) from fun z => z.elim (fun q => q h1) (fun q => q.elim (fun q => q hcn) (fun q => by omega))), if_pos (Or.inl h5)]; exact ⟨rfl, rfl⟩)
            · refine lv_aload hx hb d_LT_join_100 (lv_at hl 0 rfl) ?_
              refine ct_get X h (q0 := 5 + b) (by omega) (lk_ce_n (by omega)) rfl gl_ND 9 (by decide) rfl gf_LT_145 rfl d_LT_join_102 ?_
              refine lv_iconst (v := (-1)) hx hb d_LT_join_105 (by decide) ?_
              refine lv_icmp_eq (tgt := 111) hx hb d_LT_join_106 (by decide) (fun h6 => ?_) (fun h6 => ?_)
              · refine lv_aload hx hb d_LT_join_111 (lv_at hl 1 rfl) ?_
                refine ct_get X h (q0 := 5 + a) (by omega) (lk_ce_n (by omega)) rfl gl_ND 7 (by decide) rfl gf_LT_136 rfl d_LT_join_113 ?_
                refine lv_aload_n hx hb d_LT_join_116 rfl (lv_at hl 6 rfl) ?_
                refine ct_get X h (q0 := 5 + p) (by omega) (lk_ce_n (by omega)) rfl gl_ND 1 (by decide) rfl gf_LT_158 rfl d_LT_join_117 ?_
                refine lv_iload hx hb d_LT_join_120 (lv_at hl 2 rfl) ?_
                refine nd_ald7 X h (q := p) (j := i) (by omega) (by omega) d_LT_join_122 ?_
                refine lv_icmp_ne (tgt := 143) hx hb d_LT_join_123 (by decide) (fun h7 => ?_) (fun h7 => ?_)
                · refine lv_aload_n hx hb d_LT_join_143 rfl (lv_at hl 4 rfl) ?_
                  refine lv_aload_n hx hb d_LT_join_144 rfl (lv_at hl 5 rfl) ?_
                  refine lv_iconst (v := 0) hx hb d_LT_join_145 (by decide) ?_
                  refine lk_goi (lk_runV (As := [.ref (ad (80 + t)), .int 0]) (C := R_LT) X h (c_LT_finish l D τ ad _ t ht 0) ⟨gc_LT_finish, gm_LT_175, gn_LT, gd_LT_finish, by decide, by decide⟩ gi_LT_finish gs_LT_finish ⟨0, 0, _, _, _, lk_w_get (by decide), rfl⟩ rfl hl.1 (Nat.le_of_ble_eq_true rfl) d_LT_join_146 ⟨Nat.zero_le _, Nat.zero_le _⟩) h hA (fun r146 σ146 H locs hk9 h => ?_)
                  rw [hk9.2] at h
                  rw [hk9.1]
                  exact lk_reti X h d_LT_join_149 (by rw [cc_joins, if_neg (show ¬ (M 0 x ≠ 1 ∨ ¬ c < n ∨ n = 1) from fun z => z.elim (fun q => q h1) (fun q => q.elim (fun q => q hcn) (fun q => by omega))), if_neg (show ¬ (M 6 a ≠ -1 ∨ M 6 b ≠ -1) from fun z => z.elim (fun q => q h5) (fun q => q h6)), if_pos (Or.inl h7)]; exact ⟨rfl, rfl⟩)
                · refine lv_aload hx hb d_LT_join_126 (lv_at hl 0 rfl) ?_
                  refine ct_get X h (q0 := 5 + b) (by omega) (lk_ce_n (by omega)) rfl gl_ND 7 (by decide) rfl gf_LT_136 rfl d_LT_join_128 ?_
                  refine lv_aload_n hx hb d_LT_join_131 rfl (lv_at hl 6 rfl) ?_
                  refine ct_get X h (q0 := 5 + p) (by omega) (lk_ce_n (by omega)) rfl gl_ND 1 (by decide) rfl gf_LT_158 rfl d_LT_join_132 ?_
                  refine lv_iload hx hb d_LT_join_135 (lv_at hl 2 rfl) ?_
                  refine lv_iconst (v := nI 1) hx hb d_LT_join_137 (by decide) ?_
                  refine lk_iaddN hx hb d_LT_join_138 ?_
                  refine nd_ald7 X h (q := p) (j := i + 1) (by omega) (by omega) d_LT_join_139 ?_
                  refine lv_icmp_eq (tgt := 150) hx hb d_LT_join_140 (by decide) (fun h8 => ?_) (fun h8 => ?_)
                  · refine lv_aload hx hb d_LT_join_150 (lv_at hl 1 rfl) ?_
                    refine ct_get X h (q0 := 5 + a) (by omega) (lk_ce_n (by omega)) rfl gl_ND 3 (by decide) rfl gf_LT_142 rfl d_LT_join_152 ?_
                    refine lk_top (nI na) (h5a) ?_
                    refine lv_aload hx hb d_LT_join_155 (lv_at hl 0 rfl) ?_
                    refine ct_get X h (q0 := 5 + b) (by omega) (lk_ce_n (by omega)) rfl gl_ND 3 (by decide) rfl gf_LT_142 rfl d_LT_join_157 ?_
                    refine lk_top (nI nb) (h5b) ?_
                    refine lk_iaddN hx hb d_LT_join_160 ?_
                    refine lv_iconst (v := nI 4) hx hb d_LT_join_161 (by decide) ?_
                    refine lk_cN_gt (tgt := 200) hx hb (by omega) (by omega) d_LT_join_162 (by decide) (fun h9 => ?_) (fun h9 => ?_)
                    · refine lv_aload hx hb d_LT_join_200 (lv_at hl 1 rfl) ?_
                      refine lv_aload hx hb d_LT_join_202 (lv_at hl 0 rfl) ?_
                      refine lk_gov (lk_runV (As := [.ref (ad (5 + b))]) (C := R_ND) X h (c_ND_shareWith l D τ ad M a b na nb (by omega) (by omega) hab h5a h5b hna hnb (by omega)) ⟨gc_ND_shareWith, gm_LT_273, gn_ND, gd_ND_shareWith, by decide, by decide⟩ gi_ND_shareWith gs_ND_shareWith ⟨5 + a, 1, _, _, _, by rw [lk_w_get (by omega), lk_ce_n (by omega)], rfl⟩ rfl hl.1 (Nat.le_of_ble_eq_true rfl) d_LT_join_204 ⟨Nat.zero_le _, Nat.zero_le _⟩) h hA (fun σ204 H locs hk9 h => ?_)
                      rw [hk9] at h
                      refine lv_aload_n hx hb d_LT_join_207 rfl (lv_at hl 6 rfl) ?_
                      refine ct_get X h (q0 := 5 + p) (by omega) (lk_ce_n (by omega)) rfl gl_ND 1 (by decide) rfl gf_LT_158 rfl d_LT_join_208 ?_
                      refine lv_iload hx hb d_LT_join_211 (lv_at hl 2 rfl) ?_
                      refine lv_aload hx hb d_LT_join_213 (lv_at hl 1 rfl) ?_
                      refine ct_get X h (q0 := 5 + a) (by omega) (lk_ce_n (by omega)) rfl gl_ND 7 (by decide) rfl gf_LT_136 rfl d_LT_join_215 ?_
                      refine lk_top (lk_shr M a b na nb 7 (5 * a + (na + nb + 1) / 2 - 1)) ((lk_st_f (by decide)).trans lk_st_s) ?_
                      refine nd_ast7 X h (q := p) (j := i) (v := lk_shr M a b na nb 7 (5 * a + (na + nb + 1) / 2 - 1)) (by omega) (by omega) d_LT_join_218 (fun H locs h => ?_)
                      refine lv_aload_n hx hb d_LT_join_219 rfl (lv_at hl 6 rfl) ?_
                      refine ct_get X h (q0 := 5 + p) (by omega) (lk_ce_n (by omega)) rfl gl_ND 3 (by decide) rfl gf_LT_142 rfl d_LT_join_220 ?_
                      refine lk_top (nI n) ((lk_st_f (by decide)).trans ((lk_st_f (by decide)).trans ((lk_st_f (by decide)).trans ((lk_shr_5o M a b na nb (Ne.symm hap) (Ne.symm hbp)).trans hc)))) ?_
                      refine lv_iconst (v := nI 1) hx hb d_LT_join_223 (by decide) ?_
                      refine lk_cN_ne (tgt := 233) hx hb (by omega) (by omega) d_LT_join_224 (by decide) (fun h10 => ?_) (fun h10 => ?_)
                      · refine lv_aload_n hx hb d_LT_join_233 rfl (lv_at hl 4 rfl) ?_
                        refine lv_aload_n hx hb d_LT_join_234 rfl (lv_at hl 5 rfl) ?_
                        refine lv_iconst (v := 1) hx hb d_LT_join_235 (by decide) ?_
                        refine lk_goi (lk_runV (As := [.ref (ad (80 + t)), .int 1]) (C := R_LT) X h (c_LT_finish l D τ ad _ t ht 1) ⟨gc_LT_finish, gm_LT_175, gn_LT, gd_LT_finish, by decide, by decide⟩ gi_LT_finish gs_LT_finish ⟨0, 0, _, _, _, lk_w_get (by decide), rfl⟩ rfl hl.1 (Nat.le_of_ble_eq_true rfl) d_LT_join_236 ⟨Nat.zero_le _, Nat.zero_le _⟩) h hA (fun r236 σ236 H locs hk9 h => ?_)
                        rw [hk9.2] at h
                        rw [hk9.1]
                        exact lk_reti X h d_LT_join_239 (by rw [cc_joins, if_neg (show ¬ (M 0 x ≠ 1 ∨ ¬ c < n ∨ n = 1) from fun z => z.elim (fun q => q h1) (fun q => q.elim (fun q => q hcn) (fun q => by omega))), if_neg (show ¬ (M 6 a ≠ -1 ∨ M 6 b ≠ -1) from fun z => z.elim (fun q => q h5) (fun q => q h6)), if_neg (show ¬ (M 3 a ≠ M 7 (5 * p + i) ∨ M 3 b ≠ M 7 (5 * p + i + 1)) from fun z => z.elim (fun q => q h7) (fun q => q h8)), if_pos (show 4 < na + nb by omega)]; exact ⟨rfl, rfl⟩)
                      · omega
                    · refine lv_aload hx hb d_LT_join_165 (lv_at hl 1 rfl) ?_
                      refine lv_aload hx hb d_LT_join_167 (lv_at hl 0 rfl) ?_
                      refine lk_gov (lk_runV (As := [.ref (ad (5 + b))]) (C := R_ND) X h (c_ND_takeAllOf l D τ ad M a b na nb (by omega) (by omega) hab h5a h5b (by omega)) ⟨gc_ND_takeAllOf, gm_LT_265, gn_ND, gd_ND_takeAllOf, by decide, by decide⟩ gi_ND_takeAllOf gs_ND_takeAllOf ⟨5 + a, 1, _, _, _, by rw [lk_w_get (by omega), lk_ce_n (by omega)], rfl⟩ rfl hl.1 (Nat.le_of_ble_eq_true rfl) d_LT_join_169 ⟨Nat.zero_le _, Nat.zero_le _⟩) h hA (fun σ169 H locs hk9 h => ?_)
                      rw [hk9] at h
                      refine lv_aload_n hx hb d_LT_join_172 rfl (lv_at hl 4 rfl) ?_
                      refine lv_aload hx hb d_LT_join_173 (lv_at hl 0 rfl) ?_
                      refine lv_aload_n hx hb d_LT_join_175 rfl (lv_at hl 5 rfl) ?_
                      refine lk_gov (lk_runV (As := [.ref (ad (5 + b)), .ref (ad (80 + t))]) (C := R_LT) X h (c_LT_die l D τ ad (cc_take M a b na nb) b t nq hb2 ht (((lk_st_f (by decide)).trans ((lk_st_f (by decide)).trans (lk_mvF_f a b (by decide) (by decide) (by decide) nb na nb M))).trans hq0) hnq) ⟨gc_LT_die, gm_LT_269, gn_LT, gd_LT_die, by decide, by decide⟩ gi_LT_die gs_LT_die ⟨0, 0, _, _, _, lk_w_get (by decide), rfl⟩ rfl hl.1 (Nat.le_of_ble_eq_true rfl) d_LT_join_176 ⟨Nat.zero_le _, Nat.zero_le _⟩) h hA (fun σ176 H locs hk9 h => ?_)
                      rw [hk9] at h
                      have hc5 : (cc_die (cc_take M a b na nb) b t nq) 5 p = nI n := (cc_die_f (by decide) (by decide) (by decide) (by decide)).trans ((lk_st_f (by decide)).trans ((lk_st_f (by decide)).trans ((lk_mvF_5o a b (Ne.symm hap) (Ne.symm hbp) nb na nb M).trans hc)))
                      refine lv_aload_n hx hb d_LT_join_179 rfl (lv_at hl 6 rfl) ?_
                      refine lv_iload hx hb d_LT_join_180 (lv_at hl 2 rfl) ?_
                      refine lk_gov (lk_runV (As := [.int (nI i)]) (C := R_ND) X h (c_ND_delete l D τ ad _ p i n (by omega) hc5 (by omega) (by omega)) ⟨gc_ND_delete, gm_LT_256, gn_ND, gd_ND_delete, by decide, by decide⟩ gi_ND_delete gs_ND_delete ⟨5 + p, 1, _, _, _, by rw [lk_w_get (by omega), lk_ce_n (by omega)], rfl⟩ rfl hl.1 (Nat.le_of_ble_eq_true rfl) d_LT_join_182 ⟨Nat.zero_le _, Nat.zero_le _⟩) h hA (fun σ182 H locs hk9 h => ?_)
                      rw [hk9] at h
                      refine lv_aload_n hx hb d_LT_join_185 rfl (lv_at hl 6 rfl) ?_
                      refine ct_get X h (q0 := 5 + p) (by omega) (lk_ce_n (by omega)) rfl gl_ND 2 (by decide) rfl gf_LT_154 rfl d_LT_join_186 ?_
                      refine lv_iload hx hb d_LT_join_189 (lv_at hl 2 rfl) ?_
                      refine lv_aload hx hb d_LT_join_191 (lv_at hl 1 rfl) ?_
                      refine ct_get X h (q0 := 5 + a) (by omega) (lk_ce_n (by omega)) rfl gl_ND 0 (by decide) rfl gf_LT_198 rfl d_LT_join_193 ?_
                      refine lk_top (nI a) (lk_num_lt (by omega)) ?_
                      refine nd_ast8 X h (q := p) (j := i) (v := nI a) (by omega) (by omega) d_LT_join_196 (fun H locs h => ?_)
                      refine lv_goto (tgt := 219) hx hb d_LT_join_197 (by decide) ?_
                      refine lv_aload_n hx hb d_LT_join_219 rfl (lv_at hl 6 rfl) ?_
                      refine ct_get X h (q0 := 5 + p) (by omega) (lk_ce_n (by omega)) rfl gl_ND 3 (by decide) rfl gf_LT_142 rfl d_LT_join_220 ?_
                      refine lk_top (nI (n - 1)) ((lk_st_f (by decide)).trans (lk_del_5.trans (if_pos rfl))) ?_
                      refine lv_iconst (v := nI 1) hx hb d_LT_join_223 (by decide) ?_
                      refine lk_cN_ne (tgt := 233) hx hb (by omega) (by omega) d_LT_join_224 (by decide) (fun h10 => ?_) (fun h10 => ?_)
                      · refine lv_aload_n hx hb d_LT_join_233 rfl (lv_at hl 4 rfl) ?_
                        refine lv_aload_n hx hb d_LT_join_234 rfl (lv_at hl 5 rfl) ?_
                        refine lv_iconst (v := 1) hx hb d_LT_join_235 (by decide) ?_
                        refine lk_goi (lk_runV (As := [.ref (ad (80 + t)), .int 1]) (C := R_LT) X h (c_LT_finish l D τ ad _ t ht 1) ⟨gc_LT_finish, gm_LT_175, gn_LT, gd_LT_finish, by decide, by decide⟩ gi_LT_finish gs_LT_finish ⟨0, 0, _, _, _, lk_w_get (by decide), rfl⟩ rfl hl.1 (Nat.le_of_ble_eq_true rfl) d_LT_join_236 ⟨Nat.zero_le _, Nat.zero_le _⟩) h hA (fun r236 σ236 H locs hk9 h => ?_)
                        rw [hk9.2] at h
                        rw [hk9.1]
                        exact lk_reti X h d_LT_join_239 (by rw [cc_joins, if_neg (show ¬ (M 0 x ≠ 1 ∨ ¬ c < n ∨ n = 1) from fun z => z.elim (fun q => q h1) (fun q => q.elim (fun q => q hcn) (fun q => by omega))), if_neg (show ¬ (M 6 a ≠ -1 ∨ M 6 b ≠ -1) from fun z => z.elim (fun q => q h5) (fun q => q h6)), if_neg (show ¬ (M 3 a ≠ M 7 (5 * p + i) ∨ M 3 b ≠ M 7 (5 * p + i + 1)) from fun z => z.elim (fun q => q h7) (fun q => q h8)), if_neg (show ¬ 4 < na + nb by omega), cc_merge, if_neg h10]; exact ⟨rfl, rfl⟩)
                      · have hq9 : (lk_cmp (M 10) (nI b) nq).2 ≤ 12 := Nat.le_trans (lk_cmp_le _ _ _) hnq
                        have e10 : (cc_take M a b na nb) 10 = M 10 := by funext z; exact ((lk_st_f (by decide)).trans ((lk_st_f (by decide)).trans (lk_mvF_f a b (by decide) (by decide) (by decide) nb na nb M)))
                        refine lv_aload_n hx hb d_LT_join_227 rfl (lv_at hl 4 rfl) ?_
                        refine lv_aload_n hx hb d_LT_join_228 rfl (lv_at hl 6 rfl) ?_
                        refine lv_aload_n hx hb d_LT_join_229 rfl (lv_at hl 5 rfl) ?_
                        refine lk_gov (lk_runV (As := [.ref (ad (5 + p)), .ref (ad (80 + t))]) (C := R_LT) X h (c_LT_lowerOrQueue l D τ ad _ t p rt (lk_cmp (M 10) (nI b) nq).2 ht hp hrt ((lk_st_f (by decide)).trans ((lk_del_f (by decide) (by decide) (by decide)).trans (cc_die_r.trans (((lk_st_f (by decide)).trans ((lk_st_f (by decide)).trans (lk_mvF_f a b (by decide) (by decide) (by decide) nb na nb M))).trans hr0)))) hq9 ((lk_st_f (by decide)).trans ((lk_del_f (by decide) (by decide) (by decide)).trans (cc_die_q.trans (by rw [e10]))))) ⟨gc_LT_lowerOrQueue, gm_LT_276, gn_LT, gd_LT_lowerOrQueue, by decide, by decide⟩ gi_LT_lowerOrQueue gs_LT_lowerOrQueue ⟨0, 0, _, _, _, lk_w_get (by decide), rfl⟩ rfl hl.1 (Nat.le_of_ble_eq_true rfl) d_LT_join_230 ⟨Nat.zero_le _, Nat.zero_le _⟩) h hA (fun σ230 H locs hk9 h => ?_)
                        rw [hk9] at h
                        refine lv_aload_n hx hb d_LT_join_233 rfl (lv_at hl 4 rfl) ?_
                        refine lv_aload_n hx hb d_LT_join_234 rfl (lv_at hl 5 rfl) ?_
                        refine lv_iconst (v := 1) hx hb d_LT_join_235 (by decide) ?_
                        refine lk_goi (lk_runV (As := [.ref (ad (80 + t)), .int 1]) (C := R_LT) X h (c_LT_finish l D τ ad _ t ht 1) ⟨gc_LT_finish, gm_LT_175, gn_LT, gd_LT_finish, by decide, by decide⟩ gi_LT_finish gs_LT_finish ⟨0, 0, _, _, _, lk_w_get (by decide), rfl⟩ rfl hl.1 (Nat.le_of_ble_eq_true rfl) d_LT_join_236 ⟨Nat.zero_le _, Nat.zero_le _⟩) h hA (fun r236 σ236 H locs hk9 h => ?_)
                        rw [hk9.2] at h
                        rw [hk9.1]
                        exact lk_reti X h d_LT_join_239 (by rw [cc_joins, if_neg (show ¬ (M 0 x ≠ 1 ∨ ¬ c < n ∨ n = 1) from fun z => z.elim (fun q => q h1) (fun q => q.elim (fun q => q hcn) (fun q => by omega))), if_neg (show ¬ (M 6 a ≠ -1 ∨ M 6 b ≠ -1) from fun z => z.elim (fun q => q h5) (fun q => q h6)), if_neg (show ¬ (M 3 a ≠ M 7 (5 * p + i) ∨ M 3 b ≠ M 7 (5 * p + i + 1)) from fun z => z.elim (fun q => q h7) (fun q => q h8)), if_neg (show ¬ 4 < na + nb by omega), cc_merge, if_pos h10]; exact ⟨rfl, rfl⟩)
                  · refine lv_aload_n hx hb d_LT_join_143 rfl (lv_at hl 4 rfl) ?_
                    refine lv_aload_n hx hb d_LT_join_144 rfl (lv_at hl 5 rfl) ?_
                    refine lv_iconst (v := 0) hx hb d_LT_join_145 (by decide) ?_
                    refine lk_goi (lk_runV (As := [.ref (ad (80 + t)), .int 0]) (C := R_LT) X h (c_LT_finish l D τ ad _ t ht 0) ⟨gc_LT_finish, gm_LT_175, gn_LT, gd_LT_finish, by decide, by decide⟩ gi_LT_finish gs_LT_finish ⟨0, 0, _, _, _, lk_w_get (by decide), rfl⟩ rfl hl.1 (Nat.le_of_ble_eq_true rfl) d_LT_join_146 ⟨Nat.zero_le _, Nat.zero_le _⟩) h hA (fun r146 σ146 H locs hk9 h => ?_)
                    rw [hk9.2] at h
                    rw [hk9.1]
                    exact lk_reti X h d_LT_join_149 (by rw [cc_joins, if_neg (show ¬ (M 0 x ≠ 1 ∨ ¬ c < n ∨ n = 1) from fun z => z.elim (fun q => q h1) (fun q => q.elim (fun q => q hcn) (fun q => by omega))), if_neg (show ¬ (M 6 a ≠ -1 ∨ M 6 b ≠ -1) from fun z => z.elim (fun q => q h5) (fun q => q h6)), if_pos (show M 3 a ≠ M 7 (5 * p + i) ∨ M 3 b ≠ M 7 (5 * p + i + 1) from Or.inr h8)]; exact ⟨rfl, rfl⟩)
              · refine lv_iconst (v := 1) hx hb d_LT_join_109 (by decide) ?_
                exact lk_reti X h d_LT_join_110 (by rw [cc_joins, if_neg (show ¬ (M 0 x ≠ 1 ∨ ¬ c < n ∨ n = 1) from fun z => z.elim (fun q => q h1) (fun q => q.elim (fun q => q hcn) (fun q => by omega))), if_pos (Or.inr h6)]; exact ⟨rfl, rfl⟩)
        · refine lv_aload_n hx hb d_LT_join_37 rfl (lv_at hl 1 rfl) ?_
          refine lv_aload_n hx hb d_LT_join_38 rfl (lv_at hl 2 rfl) ?_
          refine lv_iconst (v := 0) hx hb d_LT_join_39 (by decide) ?_
          refine lk_goi (lk_runV (As := [.ref (ad (80 + t)), .int 0]) (C := R_LT) X h (c_LT_finish l D τ ad _ t ht 0) ⟨gc_LT_finish, gm_LT_175, gn_LT, gd_LT_finish, by decide, by decide⟩ gi_LT_finish gs_LT_finish ⟨0, 0, _, _, _, lk_w_get (by decide), rfl⟩ rfl hl.1 (Nat.le_of_ble_eq_true rfl) d_LT_join_40 ⟨Nat.zero_le _, Nat.zero_le _⟩) h hA (fun r40 σ40 H locs hk9 h => ?_)
          rw [hk9.2] at h
          rw [hk9.1]
          exact lk_reti X h d_LT_join_43 (by rw [cc_joins, if_pos (Or.inr (Or.inr (by omega)))]; exact ⟨rfl, rfl⟩)
  · rw [show lk_nn c n = -1 from if_neg hcn]
    refine lv_istore_n hx hb d_LT_join_8 rfl hl (by decide) rfl (fun ls hl => ?_)
    have hl : lv_has ls 7 [(3, .int (-1)), (0, .ref (ad 0)), (1, .ref (ad (80 + t))), (2, .ref (ad (5 + p)))] := hl
    refine lv_aload_n hx hb d_LT_join_9 rfl (lv_at hl 1 rfl) ?_
    refine lv_aload_n hx hb d_LT_join_10 rfl (lv_at hl 2 rfl) ?_
    refine ct_get X h (q0 := 80 + t) (by omega) (lk_ce_t (by omega)) rfl gl_TA 9 (by decide) rfl gf_LT_172 rfl d_LT_join_11 ?_
    refine lk_top (nI x) (habt) ?_
    refine lk_goq (lk_runV (As := [.int (nI x)]) (C := R_LT) X h (c_LT_nodeAt l D τ ad _ x hx2) ⟨gc_LT_nodeAt, gm_LT_148, gn_LT, gd_LT_nodeAt, by decide, by decide⟩ gi_LT_nodeAt gs_LT_nodeAt ⟨0, 0, _, _, _, lk_w_get (by decide), rfl⟩ rfl hl.1 (Nat.le_of_ble_eq_true rfl) d_LT_join_14 ⟨Nat.zero_le _, Nat.zero_le _⟩) h hA (fun r14 σ14 H locs hk9 h => ?_)
    rw [hk9.2] at h
    rw [hk9.1, show va_rf (some (ad (5 + x))) = .ref (ad (5 + x)) from rfl]
    refine ct_get X h (q0 := 5 + x) (by omega) (lk_ce_n (by omega)) rfl gl_ND 4 (by decide) rfl gf_LT_22 rfl d_LT_join_17 ?_
    refine lv_iconst (v := 1) hx hb d_LT_join_20 (by decide) ?_
    refine lv_icmp_ne (tgt := 37) hx hb d_LT_join_21 (by decide) (fun h1 => ?_) (fun h1 => ?_)
    · refine lv_aload_n hx hb d_LT_join_37 rfl (lv_at hl 1 rfl) ?_
      refine lv_aload_n hx hb d_LT_join_38 rfl (lv_at hl 2 rfl) ?_
      refine lv_iconst (v := 0) hx hb d_LT_join_39 (by decide) ?_
      refine lk_goi (lk_runV (As := [.ref (ad (80 + t)), .int 0]) (C := R_LT) X h (c_LT_finish l D τ ad _ t ht 0) ⟨gc_LT_finish, gm_LT_175, gn_LT, gd_LT_finish, by decide, by decide⟩ gi_LT_finish gs_LT_finish ⟨0, 0, _, _, _, lk_w_get (by decide), rfl⟩ rfl hl.1 (Nat.le_of_ble_eq_true rfl) d_LT_join_40 ⟨Nat.zero_le _, Nat.zero_le _⟩) h hA (fun r40 σ40 H locs hk9 h => ?_)
      rw [hk9.2] at h
      rw [hk9.1]
      exact lk_reti X h d_LT_join_43 (by rw [cc_joins, if_pos (Or.inl h1)]; exact ⟨rfl, rfl⟩)
    · refine lv_iload_n hx hb d_LT_join_24 rfl (lv_at hl 0 rfl) ?_
      refine lv_iconst (v := (-1)) hx hb d_LT_join_25 (by decide) ?_
      refine lv_icmp_eq (tgt := 37) hx hb d_LT_join_26 (by decide) (fun _ => ?_) (fun z => absurd z (by decide))
      refine lv_aload_n hx hb d_LT_join_37 rfl (lv_at hl 1 rfl) ?_
      refine lv_aload_n hx hb d_LT_join_38 rfl (lv_at hl 2 rfl) ?_
      refine lv_iconst (v := 0) hx hb d_LT_join_39 (by decide) ?_
      refine lk_goi (lk_runV (As := [.ref (ad (80 + t)), .int 0]) (C := R_LT) X h (c_LT_finish l D τ ad _ t ht 0) ⟨gc_LT_finish, gm_LT_175, gn_LT, gd_LT_finish, by decide, by decide⟩ gi_LT_finish gs_LT_finish ⟨0, 0, _, _, _, lk_w_get (by decide), rfl⟩ rfl hl.1 (Nat.le_of_ble_eq_true rfl) d_LT_join_40 ⟨Nat.zero_le _, Nat.zero_le _⟩) h hA (fun r40 σ40 H locs hk9 h => ?_)
      rw [hk9.2] at h
      rw [hk9.1]
      exact lk_reti X h d_LT_join_43 (by rw [cc_joins, if_pos (Or.inr (Or.inl hcn))]; exact ⟨rfl, rfl⟩)
def cc_rises (σ : lk_M) (t rt : Nat) : Int32 × lk_M :=
  if σ 12 t = 3 then (2, cc_fin σ t 0) else if σ 1 rt < σ 16 t then (if lk_free σ < 24 then (0, lk_st (lk_st (lk_ins (lk_mk σ (lk_free σ) (σ 1 rt + 1) (-1) 999 (-1)) (lk_free σ) 0 0 999 (nI rt)) 24 0 (nI (lk_free σ))) 14 t (nI (lk_free σ))) else (2, cc_fin σ t (-1))) else (0, lk_rst σ t)
set_option maxRecDepth 20000 in
theorem c_LT_searchBelowWanted (l : Launch) (D : va_G) (τ : Nat → ClassId) (ad : Nat → Nat) (M : lk_M) (t rt : Nat) (ht : t < 4) (hrt : rt < 24) (hr0 : M 24 0 = nI rt) : lk_Ci l D τ 88 ad (lk_ce τ ad) y_LT_searchBelowWanted b_LT_searchBelowWanted 4 (.int) 3 65 [.ref (ad 0), .ref (ad (80 + t))] M (fun r M1 => r = (cc_rises M t rt).1 ∧ M1 = (cc_rises M t rt).2) := by
  refine lk_openi (by decide +kernel) (Nat.le_of_ble_eq_true rfl) ?_
  intro pg en s m args below meth cd ls A X h hA hl
  obtain ⟨hx, hb, -⟩ := id X
  have hl : lv_has ls 4 [(0, .ref (ad 0)), (1, .ref (ad (80 + t)))] := hl
  refine lv_aload_n hx hb d_LT_searchBelowWanted_0 rfl (lv_at hl 1 rfl) ?_
  refine ct_get X h (q0 := 80 + t) (by omega) (lk_ce_t (by omega)) rfl gl_TA 3 (by decide) rfl gf_LT_69 rfl d_LT_searchBelowWanted_1 ?_
  refine lv_iconst (v := 3) hx hb d_LT_searchBelowWanted_4 (by decide) ?_
  refine lv_icmp_ne (tgt := 15) hx hb d_LT_searchBelowWanted_5 (by decide) (fun h1 => ?_) (fun h1 => ?_)
  · refine lv_aload_n hx hb d_LT_searchBelowWanted_15 rfl (lv_at hl 0 rfl) ?_
    refine lv_aload_n hx hb d_LT_searchBelowWanted_16 rfl (lv_at hl 0 rfl) ?_
    refine ct_get X h (q0 := 0) (by omega) rfl rfl gl_LT 4 (by decide) rfl gf_LT_40 rfl d_LT_searchBelowWanted_17 ?_
    refine lk_top (nI rt) (hr0) ?_
    refine lk_goq (lk_runV (As := [.int (nI rt)]) (C := R_LT) X h (c_LT_nodeAt l D τ ad _ rt hrt) ⟨gc_LT_nodeAt, gm_LT_148, gn_LT, gd_LT_nodeAt, by decide, by decide⟩ gi_LT_nodeAt gs_LT_nodeAt ⟨0, 0, _, _, _, lk_w_get (by decide), rfl⟩ rfl hl.1 (Nat.le_of_ble_eq_true rfl) d_LT_searchBelowWanted_20 ⟨Nat.zero_le _, Nat.zero_le _⟩) h hA (fun r20 σ20 H locs hk9 h => ?_)
    rw [hk9.2] at h
    rw [hk9.1, show va_rf (some (ad (5 + rt))) = .ref (ad (5 + rt)) from rfl]
    refine lv_astore_n hx hb d_LT_searchBelowWanted_23 rfl hl (by decide) rfl (fun ls hl => ?_)
    have hl : lv_has ls 4 [(2, .ref (ad (5 + rt))), (0, .ref (ad 0)), (1, .ref (ad (80 + t)))] := hl
    refine lv_aload_n hx hb d_LT_searchBelowWanted_24 rfl (lv_at hl 0 rfl) ?_
    refine ct_get X h (q0 := 5 + rt) (by omega) (lk_ce_n (by omega)) rfl gl_ND 5 (by decide) rfl gf_LT_132 rfl d_LT_searchBelowWanted_25 ?_
    refine lv_aload_n hx hb d_LT_searchBelowWanted_28 rfl (lv_at hl 2 rfl) ?_
    refine ct_get X h (q0 := 80 + t) (by omega) (lk_ce_t (by omega)) rfl gl_TA 8 (by decide) rfl gf_LT_78 rfl d_LT_searchBelowWanted_29 ?_
    refine lv_icmp_lt (tgt := 41) hx hb d_LT_searchBelowWanted_32 (by decide) (fun h2 => ?_) (fun h2 => ?_)
    · refine lv_aload_n hx hb d_LT_searchBelowWanted_41 rfl (lv_at hl 1 rfl) ?_
      refine lk_goq (lk_runV (As := []) (C := R_LT) X h (c_LT_leastFreeNode l D τ ad _) ⟨gc_LT_leastFreeNode, gm_LT_215, gn_LT, gd_LT_leastFreeNode, by decide, by decide⟩ gi_LT_leastFreeNode gs_LT_leastFreeNode ⟨0, 0, _, _, _, lk_w_get (by decide), rfl⟩ rfl hl.1 (Nat.le_of_ble_eq_true rfl) d_LT_searchBelowWanted_42 ⟨Nat.zero_le _, Nat.zero_le _⟩) h hA (fun r42 σ42 H locs hk9 h => ?_)
      rw [hk9.2] at h
      by_cases hf : lk_free M < 24
      · rw [hk9.1, show lk_fn ad (lk_free M) = some (ad (5 + lk_free M)) from if_pos hf, show va_rf (some (ad (5 + lk_free M))) = .ref (ad (5 + lk_free M)) from rfl]
        refine lv_astore_n hx hb d_LT_searchBelowWanted_45 rfl hl (by decide) rfl (fun ls hl => ?_)
        have hl : lv_has ls 4 [(3, .ref (ad (5 + lk_free M))), (2, .ref (ad (5 + rt))), (0, .ref (ad 0)), (1, .ref (ad (80 + t)))] := hl
        refine lv_aload_n hx hb d_LT_searchBelowWanted_46 rfl (lv_at hl 0 rfl) ?_
        refine lv_ifnonnull (tgt := 57) hx hb d_LT_searchBelowWanted_47 (by decide) ?_
        refine lv_aload_n hx hb d_LT_searchBelowWanted_57 rfl (lv_at hl 0 rfl) ?_
        refine lv_aload_n hx hb d_LT_searchBelowWanted_58 rfl (lv_at hl 1 rfl) ?_
        refine ct_get X h (q0 := 5 + rt) (by omega) (lk_ce_n (by omega)) rfl gl_ND 5 (by decide) rfl gf_LT_132 rfl d_LT_searchBelowWanted_59 ?_
        refine lv_iconst (v := 1) hx hb d_LT_searchBelowWanted_62 (by decide) ?_
        refine lv_iadd hx hb d_LT_searchBelowWanted_63 ?_
        refine lv_iconst (v := (-1)) hx hb d_LT_searchBelowWanted_64 (by decide) ?_
        refine lv_sipush (v := 999) hx hb d_LT_searchBelowWanted_65 (by decide) ?_
        refine lv_iconst (v := (-1)) hx hb d_LT_searchBelowWanted_68 (by decide) ?_
        refine lk_gov (lk_runV (As := [.int ((M 1 rt) + 1), .int (-1), .int 999, .int (-1)]) (C := R_ND) X h (c_ND_become l D τ ad M (lk_free M) (by omega) _ _ _ _) ⟨gc_ND_become, gm_LT_43, gn_ND, gd_ND_become, by decide, by decide⟩ gi_ND_become gs_ND_become ⟨5 + lk_free M, 1, _, _, _, by rw [lk_w_get (by omega), lk_ce_n (by omega)], rfl⟩ rfl hl.1 (Nat.le_of_ble_eq_true rfl) d_LT_searchBelowWanted_69 ⟨Nat.zero_le _, Nat.zero_le _⟩) h hA (fun σ69 H locs hk9 h => ?_)
        rw [hk9] at h
        refine lv_aload_n hx hb d_LT_searchBelowWanted_72 rfl (lv_at hl 0 rfl) ?_
        refine lv_iconst (v := nI 0) hx hb d_LT_searchBelowWanted_73 (by decide) ?_
        refine lv_sipush (v := 999) hx hb d_LT_searchBelowWanted_74 (by decide) ?_
        refine lv_aload_n hx hb d_LT_searchBelowWanted_77 rfl (lv_at hl 2 rfl) ?_
        refine ct_get X h (q0 := 0) (by omega) rfl rfl gl_LT 4 (by decide) rfl gf_LT_40 rfl d_LT_searchBelowWanted_78 ?_
        refine lk_top (nI rt) ((lk_mk_f (by decide)).trans hr0) ?_
        refine lk_gov (lk_runV (As := [.int (nI 0), .int 999, .int (nI rt)]) (C := R_ND) X h (c_ND_insert l D τ ad _ (lk_free M) 0 0 (by omega) lk_mk_5 (by omega) (by omega) _ _) ⟨gc_ND_insert, gm_LT_219, gn_ND, gd_ND_insert, by decide, by decide⟩ gi_ND_insert gs_ND_insert ⟨5 + lk_free M, 1, _, _, _, by rw [lk_w_get (by omega), lk_ce_n (by omega)], rfl⟩ rfl hl.1 (Nat.le_of_ble_eq_true rfl) d_LT_searchBelowWanted_81 ⟨Nat.zero_le _, Nat.zero_le _⟩) h hA (fun σ81 H locs hk9 h => ?_)
        rw [hk9] at h
        refine lv_aload_n hx hb d_LT_searchBelowWanted_84 rfl (lv_at hl 2 rfl) ?_
        refine lv_aload_n hx hb d_LT_searchBelowWanted_85 rfl (lv_at hl 0 rfl) ?_
        refine ct_get X h (q0 := 5 + lk_free M) (by omega) (lk_ce_n (by omega)) rfl gl_ND 0 (by decide) rfl gf_LT_198 rfl d_LT_searchBelowWanted_86 ?_
        refine lk_top (nI (lk_free M)) (lk_num_lt (by omega)) ?_
        refine lt_put X h gf_LT_40 d_LT_searchBelowWanted_89 (fun H locs h => ?_)
        refine lv_aload_n hx hb d_LT_searchBelowWanted_92 rfl (lv_at hl 3 rfl) ?_
        refine lv_aload_n hx hb d_LT_searchBelowWanted_93 rfl (lv_at hl 2 rfl) ?_
        refine ct_get X h (q0 := 0) (by omega) rfl rfl gl_LT 4 (by decide) rfl gf_LT_40 rfl d_LT_searchBelowWanted_94 ?_
        refine lk_top (nI (lk_free M)) (lk_st_s) ?_
        refine ta_put5 X h (t := t) (by omega) gf_LT_118 d_LT_searchBelowWanted_97 (fun H locs h => ?_)
        refine lv_iconst (v := 0) hx hb d_LT_searchBelowWanted_100 (by decide) ?_
        exact lk_reti X h d_LT_searchBelowWanted_101 (by rw [cc_rises, if_neg h1, if_pos h2, if_pos hf]; exact ⟨rfl, rfl⟩)
      · rw [hk9.1, show lk_fn ad (lk_free M) = none from if_neg hf, show va_rf none = .null from rfl]
        refine lv_astore_nN hx hb d_LT_searchBelowWanted_45 rfl hl (by decide) rfl (fun ls hl => ?_)
        have hl : lv_has ls 4 [(3, .null), (2, .ref (ad (5 + rt))), (0, .ref (ad 0)), (1, .ref (ad (80 + t)))] := hl
        refine lv_aload_nN hx hb d_LT_searchBelowWanted_46 rfl (lv_at hl 0 rfl) ?_
        refine lv_ifnonnullN hx hb d_LT_searchBelowWanted_47 ?_
        refine lv_aload_n hx hb d_LT_searchBelowWanted_50 rfl (lv_at hl 2 rfl) ?_
        refine lv_aload_n hx hb d_LT_searchBelowWanted_51 rfl (lv_at hl 3 rfl) ?_
        refine lv_iconst (v := (-1)) hx hb d_LT_searchBelowWanted_52 (by decide) ?_
        refine lk_goi (lk_runV (As := [.ref (ad (80 + t)), .int (-1)]) (C := R_LT) X h (c_LT_finish l D τ ad _ t ht (-1)) ⟨gc_LT_finish, gm_LT_175, gn_LT, gd_LT_finish, by decide, by decide⟩ gi_LT_finish gs_LT_finish ⟨0, 0, _, _, _, lk_w_get (by decide), rfl⟩ rfl hl.1 (Nat.le_of_ble_eq_true rfl) d_LT_searchBelowWanted_53 ⟨Nat.zero_le _, Nat.zero_le _⟩) h hA (fun r53 σ53 H locs hk9 h => ?_)
        rw [hk9.2] at h
        rw [hk9.1]
        exact lk_reti X h d_LT_searchBelowWanted_56 (by rw [cc_rises, if_neg h1, if_pos h2, if_neg hf]; exact ⟨rfl, rfl⟩)
    · refine lv_aload_n hx hb d_LT_searchBelowWanted_35 rfl (lv_at hl 1 rfl) ?_
      refine lv_aload_n hx hb d_LT_searchBelowWanted_36 rfl (lv_at hl 2 rfl) ?_
      refine lk_goi (lk_runV (As := [.ref (ad (80 + t))]) (C := R_LT) X h (c_LT_restart l D τ ad M t ht) ⟨gc_LT_restart, gm_LT_192, gn_LT, gd_LT_restart, by decide, by decide⟩ gi_LT_restart gs_LT_restart ⟨0, 0, _, _, _, lk_w_get (by decide), rfl⟩ rfl hl.1 (Nat.le_of_ble_eq_true rfl) d_LT_searchBelowWanted_37 ⟨Nat.zero_le _, Nat.zero_le _⟩) h hA (fun r37 σ37 H locs hk9 h => ?_)
      rw [hk9.2] at h
      rw [hk9.1]
      exact lk_reti X h d_LT_searchBelowWanted_40 (by rw [cc_rises, if_neg h1, if_neg h2]; exact ⟨rfl, rfl⟩)
  · refine lv_aload_n hx hb d_LT_searchBelowWanted_8 rfl (lv_at hl 0 rfl) ?_
    refine lv_aload_n hx hb d_LT_searchBelowWanted_9 rfl (lv_at hl 1 rfl) ?_
    refine lv_iconst (v := 0) hx hb d_LT_searchBelowWanted_10 (by decide) ?_
    refine lk_goi (lk_runV (As := [.ref (ad (80 + t)), .int 0]) (C := R_LT) X h (c_LT_finish l D τ ad _ t ht 0) ⟨gc_LT_finish, gm_LT_175, gn_LT, gd_LT_finish, by decide, by decide⟩ gi_LT_finish gs_LT_finish ⟨0, 0, _, _, _, lk_w_get (by decide), rfl⟩ rfl hl.1 (Nat.le_of_ble_eq_true rfl) d_LT_searchBelowWanted_11 ⟨Nat.zero_le _, Nat.zero_le _⟩) h hA (fun r11 σ11 H locs hk9 h => ?_)
    rw [hk9.2] at h
    rw [hk9.1]
    exact lk_reti X h d_LT_searchBelowWanted_14 (by rw [cc_rises, if_pos h1]; exact ⟨rfl, rfl⟩)
noncomputable def cc_searches (M : lk_M) (t p n v rt : Nat) : Int32 × lk_M :=
  @ite _ (lk_lost M t p) (Classical.propDecidable _) (0, lk_rst M t) (if M 3 p < M 15 t then (0, lk_rgt M t p) else if M 16 t < M 1 p then (0, lk_st (lk_st M 19 (32 * t + v) (nI p)) 14 t (if lk_at M p n (M 15 t) < n then M 8 (5 * p + lk_at M p n (M 15 t)) else -1)) else if M 1 p < M 16 t then cc_rises M t rt else if M 12 t = 0 then (2, cc_fin M t (@ite _ (lk_hk M p n (M 15 t)) (Classical.propDecidable _) (M 8 (5 * p + lk_at M p n (M 15 t))) (-1))) else (0, lk_st M 13 t 1))
set_option maxRecDepth 20000 in
theorem c_LT_search (l : Launch) (D : va_G) (τ : Nat → ClassId) (ad : Nat → Nat) (M : lk_M) (t p n v rt : Nat) (ht : t < 4) (hp : p < 24) (hrt : rt < 24) (hr0 : M 24 0 = nI rt) (hok : ¬ lk_lost M t p → M 5 p = nI n ∧ n ≤ 4 ∧ M 1 p = nI v ∧ v ≤ 23) : lk_Ci l D τ 88 ad (lk_ce τ ad) y_LT_search b_LT_search 3 (.int) 4 88 [.ref (ad 0), .ref (ad (80 + t)), .ref (ad (5 + p))] M (fun r M1 => r = (cc_searches M t p n v rt).1 ∧ M1 = (cc_searches M t p n v rt).2) := by
  refine lk_openi (by decide +kernel) (Nat.le_of_ble_eq_true rfl) ?_
  intro pg en s m args below meth cd ls A X h hA hl
  obtain ⟨hx, hb, -⟩ := id X
  have hl : lv_has ls 3 [(0, .ref (ad 0)), (1, .ref (ad (80 + t))), (2, .ref (ad (5 + p)))] := hl
  refine lv_aload_n hx hb d_LT_search_0 rfl (lv_at hl 2 rfl) ?_
  refine lv_aload_n hx hb d_LT_search_1 rfl (lv_at hl 1 rfl) ?_
  refine ct_get X h (q0 := 80 + t) (by omega) (lk_ce_t (by omega)) rfl gl_TA 6 (by decide) rfl gf_LT_72 rfl d_LT_search_2 ?_
  refine lk_goi (lk_runV (As := [.int (M 15 t)]) (C := R_ND) X h (c_ND_isWrongFor l D τ ad M p (by omega) (M 15 t)) ⟨gc_ND_isWrongFor, gm_LT_189, gn_ND, gd_ND_isWrongFor, by decide, by decide⟩ gi_ND_isWrongFor gs_ND_isWrongFor ⟨5 + p, 1, _, _, _, by rw [lk_w_get (by omega), lk_ce_n (by omega)], rfl⟩ rfl hl.1 (Nat.le_of_ble_eq_true rfl) d_LT_search_5 ⟨Nat.zero_le _, Nat.zero_le _⟩) h hA (fun r5 σ5 H locs hk9 h => ?_)
  obtain ⟨hk9, hm9⟩ := hk9
  rw [hm9] at h
  rcases hk9 with ⟨e9, hT8⟩ | ⟨e9, hT8⟩
  · rw [e9]
    have hT8 : lk_lost M t p := hT8
    refine lv_if_eq (tgt := 17) hx hb d_LT_search_8 (by decide) (fun z => absurd z (by decide)) (fun _ => ?_)
    refine lv_aload_n hx hb d_LT_search_11 rfl (lv_at hl 0 rfl) ?_
    refine lv_aload_n hx hb d_LT_search_12 rfl (lv_at hl 1 rfl) ?_
    refine lk_goi (lk_runV (As := [.ref (ad (80 + t))]) (C := R_LT) X h (c_LT_restart l D τ ad M t ht) ⟨gc_LT_restart, gm_LT_192, gn_LT, gd_LT_restart, by decide, by decide⟩ gi_LT_restart gs_LT_restart ⟨0, 0, _, _, _, lk_w_get (by decide), rfl⟩ rfl hl.1 (Nat.le_of_ble_eq_true rfl) d_LT_search_13 ⟨Nat.zero_le _, Nat.zero_le _⟩) h hA (fun r13 σ13 H locs hk9 h => ?_)
    rw [hk9.2] at h
    rw [hk9.1]
    exact lk_reti X h d_LT_search_16 (by rw [cc_searches, if_pos hT8]; exact ⟨rfl, rfl⟩)
  · rw [e9]
    have hT8 : ¬ lk_lost M t p := hT8
    refine lv_if_eq (tgt := 17) hx hb d_LT_search_8 (by decide) (fun _ => ?_) (fun z => absurd z (by decide))
    obtain ⟨hc, hn, hl1, hv⟩ := hok hT8
    refine lv_aload_n hx hb d_LT_search_17 rfl (lv_at hl 2 rfl) ?_
    refine ct_get X h (q0 := 5 + p) (by omega) (lk_ce_n (by omega)) rfl gl_ND 7 (by decide) rfl gf_LT_136 rfl d_LT_search_18 ?_
    refine lv_aload_n hx hb d_LT_search_21 rfl (lv_at hl 1 rfl) ?_
    refine ct_get X h (q0 := 80 + t) (by omega) (lk_ce_t (by omega)) rfl gl_TA 6 (by decide) rfl gf_LT_72 rfl d_LT_search_22 ?_
    refine lv_icmp_ge (tgt := 35) hx hb d_LT_search_25 (by decide) (fun h25 => ?_) (fun h25 => ?_)
    · refine lv_aload_n hx hb d_LT_search_35 rfl (lv_at hl 2 rfl) ?_
      refine ct_get X h (q0 := 5 + p) (by omega) (lk_ce_n (by omega)) rfl gl_ND 5 (by decide) rfl gf_LT_132 rfl d_LT_search_36 ?_
      refine lv_aload_n hx hb d_LT_search_39 rfl (lv_at hl 1 rfl) ?_
      refine ct_get X h (q0 := 80 + t) (by omega) (lk_ce_t (by omega)) rfl gl_TA 8 (by decide) rfl gf_LT_78 rfl d_LT_search_40 ?_
      refine lv_icmp_le (tgt := 72) hx hb d_LT_search_43 (by decide) (fun h43 => ?_) (fun h43 => ?_)
      · refine lv_aload_n hx hb d_LT_search_72 rfl (lv_at hl 2 rfl) ?_
        refine ct_get X h (q0 := 5 + p) (by omega) (lk_ce_n (by omega)) rfl gl_ND 5 (by decide) rfl gf_LT_132 rfl d_LT_search_73 ?_
        refine lv_aload_n hx hb d_LT_search_76 rfl (lv_at hl 1 rfl) ?_
        refine ct_get X h (q0 := 80 + t) (by omega) (lk_ce_t (by omega)) rfl gl_TA 8 (by decide) rfl gf_LT_78 rfl d_LT_search_77 ?_
        refine lv_icmp_ge (tgt := 89) hx hb d_LT_search_80 (by decide) (fun h80 => ?_) (fun h80 => ?_)
        · refine lv_aload_n hx hb d_LT_search_89 rfl (lv_at hl 1 rfl) ?_
          refine ct_get X h (q0 := 80 + t) (by omega) (lk_ce_t (by omega)) rfl gl_TA 3 (by decide) rfl gf_LT_69 rfl d_LT_search_90 ?_
          refine lv_if_ne (tgt := 110) hx hb d_LT_search_93 (by decide) (fun h93 => ?_) (fun h93 => ?_)
          · refine lv_aload_n hx hb d_LT_search_110 rfl (lv_at hl 1 rfl) ?_
            refine lv_iconst (v := 1) hx hb d_LT_search_111 (by decide) ?_
            refine ta_put4 X h (t := t) (by omega) gf_LT_115 d_LT_search_112 (fun H locs h => ?_)
            refine lv_iconst (v := 0) hx hb d_LT_search_115 (by decide) ?_
            exact lk_reti X h d_LT_search_116 (by rw [cc_searches, if_neg hT8, if_neg (Int32.not_lt.mpr h25), if_neg (Int32.not_lt.mpr h43), if_neg (Int32.not_lt.mpr h80), if_neg h93]; exact ⟨rfl, rfl⟩)
          · refine lv_aload_n hx hb d_LT_search_96 rfl (lv_at hl 0 rfl) ?_
            refine lv_aload_n hx hb d_LT_search_97 rfl (lv_at hl 1 rfl) ?_
            refine lv_aload_n hx hb d_LT_search_98 rfl (lv_at hl 2 rfl) ?_
            refine lv_aload_n hx hb d_LT_search_99 rfl (lv_at hl 1 rfl) ?_
            refine ct_get X h (q0 := 80 + t) (by omega) (lk_ce_t (by omega)) rfl gl_TA 6 (by decide) rfl gf_LT_72 rfl d_LT_search_100 ?_
            refine lk_goi (lk_runV (As := [.int (M 15 t)]) (C := R_ND) X h (c_ND_valueOf l D τ ad M p n (by omega) hc (by omega) (M 15 t)) ⟨gc_ND_valueOf, gm_LT_212, gn_ND, gd_ND_valueOf, by decide, by decide⟩ gi_ND_valueOf gs_ND_valueOf ⟨5 + p, 1, _, _, _, by rw [lk_w_get (by omega), lk_ce_n (by omega)], rfl⟩ rfl hl.1 (Nat.le_of_ble_eq_true rfl) d_LT_search_103 ⟨Nat.zero_le _, Nat.zero_le _⟩) h hA (fun r103 σ103 H locs hk9 h => ?_)
            rw [hk9.2] at h
            rw [hk9.1]
            refine lk_goi (lk_runV (As := [.ref (ad (80 + t)), .int (@ite _ (lk_hk M p n (M 15 t)) (Classical.propDecidable _) (M 8 (5 * p + lk_at M p n (M 15 t))) (-1))]) (C := R_LT) X h (c_LT_finish l D τ ad _ t ht _) ⟨gc_LT_finish, gm_LT_175, gn_LT, gd_LT_finish, by decide, by decide⟩ gi_LT_finish gs_LT_finish ⟨0, 0, _, _, _, lk_w_get (by decide), rfl⟩ rfl hl.1 (Nat.le_of_ble_eq_true rfl) d_LT_search_106 ⟨Nat.zero_le _, Nat.zero_le _⟩) h hA (fun r106 σ106 H locs hk9 h => ?_)
            rw [hk9.2] at h
            rw [hk9.1]
            exact lk_reti X h d_LT_search_109 (by rw [cc_searches, if_neg hT8, if_neg (Int32.not_lt.mpr h25), if_neg (Int32.not_lt.mpr h43), if_neg (Int32.not_lt.mpr h80), if_pos h93]; exact ⟨rfl, rfl⟩)
        · refine lv_aload_n hx hb d_LT_search_83 rfl (lv_at hl 0 rfl) ?_
          refine lv_aload_n hx hb d_LT_search_84 rfl (lv_at hl 1 rfl) ?_
          refine lk_goi (lk_runV (As := [.ref (ad (80 + t))]) (C := R_LT) X h (c_LT_searchBelowWanted l D τ ad M t rt ht hrt hr0) ⟨gc_LT_searchBelowWanted, gm_LT_209, gn_LT, gd_LT_searchBelowWanted, by decide, by decide⟩ gi_LT_searchBelowWanted gs_LT_searchBelowWanted ⟨0, 0, _, _, _, lk_w_get (by decide), rfl⟩ rfl hl.1 (Nat.le_of_ble_eq_true rfl) d_LT_search_85 ⟨Nat.zero_le _, Nat.zero_le _⟩) h hA (fun r85 σ85 H locs hk9 h => ?_)
          rw [hk9.2] at h
          rw [hk9.1]
          exact lk_reti X h d_LT_search_88 (by rw [cc_searches, if_neg hT8, if_neg (Int32.not_lt.mpr h25), if_neg (Int32.not_lt.mpr h43), if_pos (Int32.not_le.mp h80)]; exact ⟨rfl, rfl⟩)
      · refine lv_aload_n hx hb d_LT_search_46 rfl (lv_at hl 1 rfl) ?_
        refine lv_aload_n hx hb d_LT_search_47 rfl (lv_at hl 2 rfl) ?_
        refine ct_get X h (q0 := 5 + p) (by omega) (lk_ce_n (by omega)) rfl gl_ND 5 (by decide) rfl gf_LT_132 rfl d_LT_search_48 ?_
        refine lk_top (nI v) (hl1) ?_
        refine lv_aload_n hx hb d_LT_search_51 rfl (lv_at hl 2 rfl) ?_
        refine ct_get X h (q0 := 5 + p) (by omega) (lk_ce_n (by omega)) rfl gl_ND 0 (by decide) rfl gf_LT_198 rfl d_LT_search_52 ?_
        refine lk_top (nI p) (lk_num_lt (by omega)) ?_
        refine lk_gov (lk_runV (As := [.int (nI v), .int (nI p)]) (C := R_TA) X h (c_TA_note l D τ ad M t v ht (by omega) (nI p)) ⟨gc_TA_note, gm_LT_201, gn_TA, gd_TA_note, by decide, by decide⟩ gi_TA_note gs_TA_note ⟨80 + t, 2, _, _, _, by rw [lk_w_get (by omega), lk_ce_t (by omega)], rfl⟩ rfl hl.1 (Nat.le_of_ble_eq_true rfl) d_LT_search_55 ⟨Nat.zero_le _, Nat.zero_le _⟩) h hA (fun σ55 H locs hk9 h => ?_)
        rw [hk9] at h
        refine lv_aload_n hx hb d_LT_search_58 rfl (lv_at hl 1 rfl) ?_
        refine lv_aload_n hx hb d_LT_search_59 rfl (lv_at hl 2 rfl) ?_
        refine lv_aload_n hx hb d_LT_search_60 rfl (lv_at hl 1 rfl) ?_
        refine ct_get X h (q0 := 80 + t) (by omega) (lk_ce_t (by omega)) rfl gl_TA 6 (by decide) rfl gf_LT_72 rfl d_LT_search_61 ?_
        refine lk_top (M 15 t) (lk_st_f (by decide)) ?_
        refine lk_goi (lk_runV (As := [.int (M 15 t)]) (C := R_ND) X h (c_ND_childFor l D τ ad _ p n (by omega) ((lk_st_f (by decide)).trans hc) (by omega) (M 15 t)) ⟨gc_ND_childFor, gm_LT_205, gn_ND, gd_ND_childFor, by decide, by decide⟩ gi_ND_childFor gs_ND_childFor ⟨5 + p, 1, _, _, _, by rw [lk_w_get (by omega), lk_ce_n (by omega)], rfl⟩ rfl hl.1 (Nat.le_of_ble_eq_true rfl) d_LT_search_64 ⟨Nat.zero_le _, Nat.zero_le _⟩) h hA (fun r64 σ64 H locs hk9 h => ?_)
        rw [hk9.2] at h
        rw [hk9.1, show (if lk_at (lk_st M 19 (32 * t + v) (nI p)) p n (M 15 t) < n then (lk_st M 19 (32 * t + v) (nI p)) 8 (5 * p + lk_at (lk_st M 19 (32 * t + v) (nI p)) p n (M 15 t)) else -1) = (if lk_at M p n (M 15 t) < n then M 8 (5 * p + lk_at M p n (M 15 t)) else -1) from rfl]
        refine ta_put5 X h (t := t) (by omega) gf_LT_118 d_LT_search_67 (fun H locs h => ?_)
        refine lv_iconst (v := 0) hx hb d_LT_search_70 (by decide) ?_
        exact lk_reti X h d_LT_search_71 (by rw [cc_searches, if_neg hT8, if_neg (Int32.not_lt.mpr h25), if_pos (Int32.not_le.mp h43)]; exact ⟨rfl, rfl⟩)
    · refine lv_aload_n hx hb d_LT_search_28 rfl (lv_at hl 0 rfl) ?_
      refine lv_aload_n hx hb d_LT_search_29 rfl (lv_at hl 1 rfl) ?_
      refine lv_aload_n hx hb d_LT_search_30 rfl (lv_at hl 2 rfl) ?_
      refine lk_goi (lk_runV (As := [.ref (ad (80 + t)), .ref (ad (5 + p))]) (C := R_LT) X h (c_LT_goRight l D τ ad M t p ht (by omega)) ⟨gc_LT_goRight, gm_LT_195, gn_LT, gd_LT_goRight, by decide, by decide⟩ gi_LT_goRight gs_LT_goRight ⟨0, 0, _, _, _, lk_w_get (by decide), rfl⟩ rfl hl.1 (Nat.le_of_ble_eq_true rfl) d_LT_search_31 ⟨Nat.zero_le _, Nat.zero_le _⟩) h hA (fun r31 σ31 H locs hk9 h => ?_)
      rw [hk9.2] at h
      rw [hk9.1]
      exact lk_reti X h d_LT_search_34 (by rw [cc_searches, if_neg hT8, if_pos (Int32.not_le.mp h25)]; exact ⟨rfl, rfl⟩)
noncomputable def cc_hold0 (M : lk_M) (t p n v rt nq x a b na nb : Nat) : Int32 × lk_M :=
  @ite _ (lk_lost M t p) (Classical.propDecidable _) (0, lk_rst M t) (if M 3 p < M 15 t then (0, lk_st (lk_rgt M t p) 13 t 1) else if M 12 t = 1 then cc_puts M t p n v else if M 12 t = 2 then cc_removes M t p n rt nq else if M 12 t = 3 then cc_joins M t p n x a b na nb rt nq (lk_ch M p n (nI x)) (lk_ji (lk_ch M p n (nI x)) n) else cc_posts M t p n v)
noncomputable def cc_holds (M : lk_M) (t p n v rt nq x a b na nb : Nat) : Int32 × lk_M :=
  if (cc_hold0 M t p n v rt nq x a b na nb).1 = 1 then cc_hold0 M t p n v rt nq x a b na nb else ((cc_hold0 M t p n v rt nq x a b na nb).1, lk_st (cc_hold0 M t p n v rt nq x a b na nb).2 6 p (-1))
theorem cc_rgt13 (M : lk_M) (t p : Nat) : lk_rgt (lk_st M 13 t 1) t p = lk_st (lk_rgt M t p) 13 t 1 := by
  funext f i
  unfold lk_rgt
  simp only [lk_st_eq]
  by_cases h : f = 13
  · subst h; simp
  · simp [h]
def cc_hpre (M : lk_M) (t p n v rt nq x a b na nb : Nat) : Prop :=
  t < 4 ∧ p < 24 ∧ M 14 t = nI p ∧ rt < 24 ∧ M 24 0 = nI rt ∧ nq ≤ 12 ∧ M 24 1 = nI nq ∧ (¬ lk_lost M t p → M 5 p = nI n ∧ n ≤ 4 ∧ M 1 p = nI v ∧ v ≤ 23 ∧ M 0 p = 1) ∧
  (¬ lk_lost M t p → ¬ M 3 p < M 15 t → M 12 t ≠ 1 → M 12 t ≠ 2 → M 12 t ≠ 3 → lk_at M p n (M 15 t) < n) ∧
  (¬ lk_lost M t p → ¬ M 3 p < M 15 t → M 12 t = 3 → x < 24 ∧ M 18 t = nI x ∧ 1 ≤ n ∧ (lk_ch M p n (nI x) < n → 2 ≤ n → M 8 (5 * p + lk_ji (lk_ch M p n (nI x)) n) = nI a ∧ M 8 (5 * p + lk_ji (lk_ch M p n (nI x)) n + 1) = nI b ∧ a < 24 ∧ b < 24 ∧ a ≠ b ∧ a ≠ p ∧ b ≠ p ∧ M 5 a = nI na ∧ M 5 b = nI nb ∧ na ≤ 4 ∧ nb ≤ 4))
def cc_spre (M : lk_M) (t p n v rt nq x a b na nb : Nat) : Prop :=
  t < 4 ∧ p < 24 ∧ M 14 t = nI p ∧ rt < 24 ∧ M 24 0 = nI rt ∧ nq ≤ 12 ∧ M 24 1 = nI nq ∧ (¬ lk_lost M t p → M 5 p = nI n ∧ n ≤ 4 ∧ M 1 p = nI v ∧ v ≤ 23 ∧ M 0 p = 1) ∧ (M 13 t = 2 → cc_hpre M t p n v rt nq x a b na nb)
set_option maxRecDepth 20000 in
theorem c_LT_hold (l : Launch) (D : va_G) (τ : Nat → ClassId) (ad : Nat → Nat) (M : lk_M) (t p n v rt nq x a b na nb : Nat) (hh : cc_hpre M t p n v rt nq x a b na nb) : lk_Ci l D τ 88 ad (lk_ce τ ad) y_LT_hold b_LT_hold 4 (.int) 4 95 [.ref (ad 0), .ref (ad (80 + t)), .ref (ad (5 + p))] M (fun r M1 => r = (cc_holds M t p n v rt nq x a b na nb).1 ∧ M1 = (cc_holds M t p n v rt nq x a b na nb).2) := by
  refine lk_openi (by decide +kernel) (Nat.le_of_ble_eq_true rfl) ?_
  intro pg en s m args below meth cd ls A X h hA hl
  obtain ⟨hx, hb, -⟩ := id X
  have hl : lv_has ls 4 [(0, .ref (ad 0)), (1, .ref (ad (80 + t))), (2, .ref (ad (5 + p)))] := hl
  obtain ⟨ht, hp, hpl, hrt, hr0, hnq, hq0, hok, hpo, hjo⟩ := hh
  refine lv_aload_n hx hb d_LT_hold_0 rfl (lv_at hl 2 rfl) ?_
  refine lv_aload_n hx hb d_LT_hold_1 rfl (lv_at hl 1 rfl) ?_
  refine ct_get X h (q0 := 80 + t) (by omega) (lk_ce_t (by omega)) rfl gl_TA 6 (by decide) rfl gf_LT_72 rfl d_LT_hold_2 ?_
  refine lk_goi (lk_runV (As := [.int (M 15 t)]) (C := R_ND) X h (c_ND_isWrongFor l D τ ad M p (by omega) (M 15 t)) ⟨gc_ND_isWrongFor, gm_LT_189, gn_ND, gd_ND_isWrongFor, by decide, by decide⟩ gi_ND_isWrongFor gs_ND_isWrongFor ⟨5 + p, 1, _, _, _, by rw [lk_w_get (by omega), lk_ce_n (by omega)], rfl⟩ rfl hl.1 (Nat.le_of_ble_eq_true rfl) d_LT_hold_5 ⟨Nat.zero_le _, Nat.zero_le _⟩) h hA (fun r5 σ5 H locs hk9 h => ?_)
  obtain ⟨hk9, hm9⟩ := hk9
  rw [hm9] at h
  rcases hk9 with ⟨e9, hT8⟩ | ⟨e9, hT8⟩
  · rw [e9]
    have hT8 : lk_lost M t p := hT8
    refine lv_if_eq (tgt := 20) hx hb d_LT_hold_8 (by decide) (fun z => absurd z (by decide)) (fun _ => ?_)
    refine lv_aload_n hx hb d_LT_hold_11 rfl (lv_at hl 0 rfl) ?_
    refine lv_aload_n hx hb d_LT_hold_12 rfl (lv_at hl 1 rfl) ?_
    refine lk_goi (lk_runV (As := [.ref (ad (80 + t))]) (C := R_LT) X h (c_LT_restart l D τ ad M t ht) ⟨gc_LT_restart, gm_LT_192, gn_LT, gd_LT_restart, by decide, by decide⟩ gi_LT_restart gs_LT_restart ⟨0, 0, _, _, _, lk_w_get (by decide), rfl⟩ rfl hl.1 (Nat.le_of_ble_eq_true rfl) d_LT_hold_13 ⟨Nat.zero_le _, Nat.zero_le _⟩) h hA (fun r13 σ13 H locs hk9 h => ?_)
    rw [hk9.2] at h
    rw [hk9.1]
    have e0 : cc_hold0 M t p n v rt nq x a b na nb = (0, lk_rst M t) := by rw [cc_hold0, if_pos hT8]
    refine lv_istore_n hx hb d_LT_hold_16 rfl hl (by decide) rfl (fun ls hl => ?_)
    have hl : lv_has ls 4 [(3, .int 0), (0, .ref (ad 0)), (1, .ref (ad (80 + t))), (2, .ref (ad (5 + p)))] := hl
    refine lv_goto (tgt := 107) hx hb d_LT_hold_17 (by decide) ?_
    refine lv_iload_n hx hb d_LT_hold_107 rfl (lv_at hl 0 rfl) ?_
    refine lv_iconst (v := 1) hx hb d_LT_hold_108 (by decide) ?_
    refine lv_icmp_eq (tgt := 117) hx hb d_LT_hold_109 (by decide) (fun z => absurd z (by decide)) (fun _ => ?_)
    refine lv_aload_n hx hb d_LT_hold_112 rfl (lv_at hl 3 rfl) ?_
    refine lv_iconst (v := (-1)) hx hb d_LT_hold_113 (by decide) ?_
    refine nd_put9 X h (q := p) (by omega) gf_LT_145 d_LT_hold_114 (fun H locs h => ?_)
    refine lv_iload_n hx hb d_LT_hold_117 rfl (lv_at hl 0 rfl) ?_
    exact lk_reti X h d_LT_hold_118 (by rw [cc_holds, e0, if_neg (by show ¬ (0 : Int32) = 1; decide)]; exact ⟨rfl, rfl⟩)
  · rw [e9]
    have hT8 : ¬ lk_lost M t p := hT8
    refine lv_if_eq (tgt := 20) hx hb d_LT_hold_8 (by decide) (fun _ => ?_) (fun z => absurd z (by decide))
    obtain ⟨hc, hn, hl1, hv, hkd⟩ := hok hT8
    refine lv_aload_n hx hb d_LT_hold_20 rfl (lv_at hl 2 rfl) ?_
    refine ct_get X h (q0 := 5 + p) (by omega) (lk_ce_n (by omega)) rfl gl_ND 7 (by decide) rfl gf_LT_136 rfl d_LT_hold_21 ?_
    refine lv_aload_n hx hb d_LT_hold_24 rfl (lv_at hl 1 rfl) ?_
    refine ct_get X h (q0 := 80 + t) (by omega) (lk_ce_t (by omega)) rfl gl_TA 6 (by decide) rfl gf_LT_72 rfl d_LT_hold_25 ?_
    refine lv_icmp_ge (tgt := 46) hx hb d_LT_hold_28 (by decide) (fun h28 => ?_) (fun h28 => ?_)
    · refine lv_aload_n hx hb d_LT_hold_46 rfl (lv_at hl 1 rfl) ?_
      refine ct_get X h (q0 := 80 + t) (by omega) (lk_ce_t (by omega)) rfl gl_TA 3 (by decide) rfl gf_LT_69 rfl d_LT_hold_47 ?_
      refine lv_iconst (v := 1) hx hb d_LT_hold_50 (by decide) ?_
      refine lv_icmp_ne (tgt := 64) hx hb d_LT_hold_51 (by decide) (fun h51 => ?_) (fun h51 => ?_)
      · refine lv_aload_n hx hb d_LT_hold_64 rfl (lv_at hl 1 rfl) ?_
        refine ct_get X h (q0 := 80 + t) (by omega) (lk_ce_t (by omega)) rfl gl_TA 3 (by decide) rfl gf_LT_69 rfl d_LT_hold_65 ?_
        refine lv_iconst (v := 2) hx hb d_LT_hold_68 (by decide) ?_
        refine lv_icmp_ne (tgt := 82) hx hb d_LT_hold_69 (by decide) (fun h69 => ?_) (fun h69 => ?_)
        · refine lv_aload_n hx hb d_LT_hold_82 rfl (lv_at hl 1 rfl) ?_
          refine ct_get X h (q0 := 80 + t) (by omega) (lk_ce_t (by omega)) rfl gl_TA 3 (by decide) rfl gf_LT_69 rfl d_LT_hold_83 ?_
          refine lv_iconst (v := 3) hx hb d_LT_hold_86 (by decide) ?_
          refine lv_icmp_ne (tgt := 100) hx hb d_LT_hold_87 (by decide) (fun h87 => ?_) (fun h87 => ?_)
          · refine lv_aload_n hx hb d_LT_hold_100 rfl (lv_at hl 0 rfl) ?_
            refine lv_aload_n hx hb d_LT_hold_101 rfl (lv_at hl 1 rfl) ?_
            refine lv_aload_n hx hb d_LT_hold_102 rfl (lv_at hl 2 rfl) ?_
            refine lk_goi (lk_runV (As := [.ref (ad (80 + t)), .ref (ad (5 + p))]) (C := R_LT) X h (c_LT_post l D τ ad M t p n v ht hp hc hn hkd hv hl1 (hpo hT8 (Int32.not_lt.mpr h28) h51 h69 h87)) ⟨gc_LT_post, gm_LT_233, gn_LT, gd_LT_post, by decide, by decide⟩ gi_LT_post gs_LT_post ⟨0, 0, _, _, _, lk_w_get (by decide), rfl⟩ rfl hl.1 (Nat.le_of_ble_eq_true rfl) d_LT_hold_103 ⟨Nat.zero_le _, Nat.zero_le _⟩) h hA (fun r103 σ103 H locs hk9 h => ?_)
            rw [hk9.2] at h
            rw [hk9.1]
            have e0 : cc_hold0 M t p n v rt nq x a b na nb = cc_posts M t p n v := by rw [cc_hold0, if_neg hT8, if_neg (Int32.not_lt.mpr h28), if_neg h51, if_neg h69, if_neg h87]
            refine lv_istore_n hx hb d_LT_hold_106 rfl hl (by decide) rfl (fun ls hl => ?_)
            have hl : lv_has ls 4 [(3, .int ((cc_posts M t p n v).1)), (0, .ref (ad 0)), (1, .ref (ad (80 + t))), (2, .ref (ad (5 + p)))] := hl
            refine lv_iload_n hx hb d_LT_hold_107 rfl (lv_at hl 0 rfl) ?_
            refine lv_iconst (v := 1) hx hb d_LT_hold_108 (by decide) ?_
            refine lv_icmp_eq (tgt := 117) hx hb d_LT_hold_109 (by decide) (fun h109 => ?_) (fun h109 => ?_)
            · refine lv_iload_n hx hb d_LT_hold_117 rfl (lv_at hl 0 rfl) ?_
              exact lk_reti X h d_LT_hold_118 (by rw [cc_holds, e0, if_pos h109]; exact ⟨rfl, rfl⟩)
            · refine lv_aload_n hx hb d_LT_hold_112 rfl (lv_at hl 3 rfl) ?_
              refine lv_iconst (v := (-1)) hx hb d_LT_hold_113 (by decide) ?_
              refine nd_put9 X h (q := p) (by omega) gf_LT_145 d_LT_hold_114 (fun H locs h => ?_)
              refine lv_iload_n hx hb d_LT_hold_117 rfl (lv_at hl 0 rfl) ?_
              exact lk_reti X h d_LT_hold_118 (by rw [cc_holds, e0, if_neg h109]; exact ⟨rfl, rfl⟩)
          · obtain ⟨hx2, habt, hn1, hpr⟩ := hjo hT8 (Int32.not_lt.mpr h28) h87
            refine lv_aload_n hx hb d_LT_hold_90 rfl (lv_at hl 0 rfl) ?_
            refine lv_aload_n hx hb d_LT_hold_91 rfl (lv_at hl 1 rfl) ?_
            refine lv_aload_n hx hb d_LT_hold_92 rfl (lv_at hl 2 rfl) ?_
            refine lk_goi (lk_runV (As := [.ref (ad (80 + t)), .ref (ad (5 + p))]) (C := R_LT) X h (c_LT_join l D τ ad M t p n x a b na nb rt nq _ _ ht hp hx2 habt hc hn1 hn hrt hr0 hnq hq0 rfl rfl hpr) ⟨gc_LT_join, gm_LT_230, gn_LT, gd_LT_join, by decide, by decide⟩ gi_LT_join gs_LT_join ⟨0, 0, _, _, _, lk_w_get (by decide), rfl⟩ rfl hl.1 (Nat.le_of_ble_eq_true rfl) d_LT_hold_93 ⟨Nat.zero_le _, Nat.zero_le _⟩) h hA (fun r93 σ93 H locs hk9 h => ?_)
            rw [hk9.2] at h
            rw [hk9.1]
            have e0 : cc_hold0 M t p n v rt nq x a b na nb = cc_joins M t p n x a b na nb rt nq (lk_ch M p n (nI x)) (lk_ji (lk_ch M p n (nI x)) n) := by rw [cc_hold0, if_neg hT8, if_neg (Int32.not_lt.mpr h28), if_neg h51, if_neg h69, if_pos h87]
            refine lv_istore_n hx hb d_LT_hold_96 rfl hl (by decide) rfl (fun ls hl => ?_)
            have hl : lv_has ls 4 [(3, .int ((cc_joins M t p n x a b na nb rt nq (lk_ch M p n (nI x)) (lk_ji (lk_ch M p n (nI x)) n)).1)), (0, .ref (ad 0)), (1, .ref (ad (80 + t))), (2, .ref (ad (5 + p)))] := hl
            refine lv_goto (tgt := 107) hx hb d_LT_hold_97 (by decide) ?_
            refine lv_iload_n hx hb d_LT_hold_107 rfl (lv_at hl 0 rfl) ?_
            refine lv_iconst (v := 1) hx hb d_LT_hold_108 (by decide) ?_
            refine lv_icmp_eq (tgt := 117) hx hb d_LT_hold_109 (by decide) (fun h109 => ?_) (fun h109 => ?_)
            · refine lv_iload_n hx hb d_LT_hold_117 rfl (lv_at hl 0 rfl) ?_
              exact lk_reti X h d_LT_hold_118 (by rw [cc_holds, e0, if_pos h109]; exact ⟨rfl, rfl⟩)
            · refine lv_aload_n hx hb d_LT_hold_112 rfl (lv_at hl 3 rfl) ?_
              refine lv_iconst (v := (-1)) hx hb d_LT_hold_113 (by decide) ?_
              refine nd_put9 X h (q := p) (by omega) gf_LT_145 d_LT_hold_114 (fun H locs h => ?_)
              refine lv_iload_n hx hb d_LT_hold_117 rfl (lv_at hl 0 rfl) ?_
              exact lk_reti X h d_LT_hold_118 (by rw [cc_holds, e0, if_neg h109]; exact ⟨rfl, rfl⟩)
        · refine lv_aload_n hx hb d_LT_hold_72 rfl (lv_at hl 0 rfl) ?_
          refine lv_aload_n hx hb d_LT_hold_73 rfl (lv_at hl 1 rfl) ?_
          refine lv_aload_n hx hb d_LT_hold_74 rfl (lv_at hl 2 rfl) ?_
          refine lk_goi (lk_runV (As := [.ref (ad (80 + t)), .ref (ad (5 + p))]) (C := R_LT) X h (c_LT_remove l D τ ad M t p n rt nq ht hp hc hn hrt hr0 hnq hq0) ⟨gc_LT_remove, gm_LT_227, gn_LT, gd_LT_remove, by decide, by decide⟩ gi_LT_remove gs_LT_remove ⟨0, 0, _, _, _, lk_w_get (by decide), rfl⟩ rfl hl.1 (Nat.le_of_ble_eq_true rfl) d_LT_hold_75 ⟨Nat.zero_le _, Nat.zero_le _⟩) h hA (fun r75 σ75 H locs hk9 h => ?_)
          rw [hk9.2] at h
          rw [hk9.1]
          have e0 : cc_hold0 M t p n v rt nq x a b na nb = cc_removes M t p n rt nq := by rw [cc_hold0, if_neg hT8, if_neg (Int32.not_lt.mpr h28), if_neg h51, if_pos h69]
          refine lv_istore_n hx hb d_LT_hold_78 rfl hl (by decide) rfl (fun ls hl => ?_)
          have hl : lv_has ls 4 [(3, .int ((cc_removes M t p n rt nq).1)), (0, .ref (ad 0)), (1, .ref (ad (80 + t))), (2, .ref (ad (5 + p)))] := hl
          refine lv_goto (tgt := 107) hx hb d_LT_hold_79 (by decide) ?_
          refine lv_iload_n hx hb d_LT_hold_107 rfl (lv_at hl 0 rfl) ?_
          refine lv_iconst (v := 1) hx hb d_LT_hold_108 (by decide) ?_
          refine lv_icmp_eq (tgt := 117) hx hb d_LT_hold_109 (by decide) (fun h109 => ?_) (fun h109 => ?_)
          · refine lv_iload_n hx hb d_LT_hold_117 rfl (lv_at hl 0 rfl) ?_
            exact lk_reti X h d_LT_hold_118 (by rw [cc_holds, e0, if_pos h109]; exact ⟨rfl, rfl⟩)
          · refine lv_aload_n hx hb d_LT_hold_112 rfl (lv_at hl 3 rfl) ?_
            refine lv_iconst (v := (-1)) hx hb d_LT_hold_113 (by decide) ?_
            refine nd_put9 X h (q := p) (by omega) gf_LT_145 d_LT_hold_114 (fun H locs h => ?_)
            refine lv_iload_n hx hb d_LT_hold_117 rfl (lv_at hl 0 rfl) ?_
            exact lk_reti X h d_LT_hold_118 (by rw [cc_holds, e0, if_neg h109]; exact ⟨rfl, rfl⟩)
      · refine lv_aload_n hx hb d_LT_hold_54 rfl (lv_at hl 0 rfl) ?_
        refine lv_aload_n hx hb d_LT_hold_55 rfl (lv_at hl 1 rfl) ?_
        refine lv_aload_n hx hb d_LT_hold_56 rfl (lv_at hl 2 rfl) ?_
        refine lk_goi (lk_runV (As := [.ref (ad (80 + t)), .ref (ad (5 + p))]) (C := R_LT) X h (c_LT_put l D τ ad M t p n v ht hp hc hn hkd hv hl1) ⟨gc_LT_put, gm_LT_224, gn_LT, gd_LT_put, by decide, by decide⟩ gi_LT_put gs_LT_put ⟨0, 0, _, _, _, lk_w_get (by decide), rfl⟩ rfl hl.1 (Nat.le_of_ble_eq_true rfl) d_LT_hold_57 ⟨Nat.zero_le _, Nat.zero_le _⟩) h hA (fun r57 σ57 H locs hk9 h => ?_)
        rw [hk9.2] at h
        rw [hk9.1]
        have e0 : cc_hold0 M t p n v rt nq x a b na nb = cc_puts M t p n v := by rw [cc_hold0, if_neg hT8, if_neg (Int32.not_lt.mpr h28), if_pos h51]
        refine lv_istore_n hx hb d_LT_hold_60 rfl hl (by decide) rfl (fun ls hl => ?_)
        have hl : lv_has ls 4 [(3, .int ((cc_puts M t p n v).1)), (0, .ref (ad 0)), (1, .ref (ad (80 + t))), (2, .ref (ad (5 + p)))] := hl
        refine lv_goto (tgt := 107) hx hb d_LT_hold_61 (by decide) ?_
        refine lv_iload_n hx hb d_LT_hold_107 rfl (lv_at hl 0 rfl) ?_
        refine lv_iconst (v := 1) hx hb d_LT_hold_108 (by decide) ?_
        refine lv_icmp_eq (tgt := 117) hx hb d_LT_hold_109 (by decide) (fun h109 => ?_) (fun h109 => ?_)
        · refine lv_iload_n hx hb d_LT_hold_117 rfl (lv_at hl 0 rfl) ?_
          exact lk_reti X h d_LT_hold_118 (by rw [cc_holds, e0, if_pos h109]; exact ⟨rfl, rfl⟩)
        · refine lv_aload_n hx hb d_LT_hold_112 rfl (lv_at hl 3 rfl) ?_
          refine lv_iconst (v := (-1)) hx hb d_LT_hold_113 (by decide) ?_
          refine nd_put9 X h (q := p) (by omega) gf_LT_145 d_LT_hold_114 (fun H locs h => ?_)
          refine lv_iload_n hx hb d_LT_hold_117 rfl (lv_at hl 0 rfl) ?_
          exact lk_reti X h d_LT_hold_118 (by rw [cc_holds, e0, if_neg h109]; exact ⟨rfl, rfl⟩)
    · refine lv_aload_n hx hb d_LT_hold_31 rfl (lv_at hl 1 rfl) ?_
      refine lv_iconst (v := 1) hx hb d_LT_hold_32 (by decide) ?_
      refine ta_put4 X h (t := t) (by omega) gf_LT_115 d_LT_hold_33 (fun H locs h => ?_)
      refine lv_aload_n hx hb d_LT_hold_36 rfl (lv_at hl 0 rfl) ?_
      refine lv_aload_n hx hb d_LT_hold_37 rfl (lv_at hl 1 rfl) ?_
      refine lv_aload_n hx hb d_LT_hold_38 rfl (lv_at hl 2 rfl) ?_
      refine lk_goi (lk_runV (As := [.ref (ad (80 + t)), .ref (ad (5 + p))]) (C := R_LT) X h (c_LT_goRight l D τ ad _ t p ht (by omega)) ⟨gc_LT_goRight, gm_LT_195, gn_LT, gd_LT_goRight, by decide, by decide⟩ gi_LT_goRight gs_LT_goRight ⟨0, 0, _, _, _, lk_w_get (by decide), rfl⟩ rfl hl.1 (Nat.le_of_ble_eq_true rfl) d_LT_hold_39 ⟨Nat.zero_le _, Nat.zero_le _⟩) h hA (fun r39 σ39 H locs hk9 h => ?_)
      rw [hk9.2, cc_rgt13] at h
      rw [hk9.1]
      have e0 : cc_hold0 M t p n v rt nq x a b na nb = (0, lk_st (lk_rgt M t p) 13 t 1) := by rw [cc_hold0, if_neg hT8, if_pos (Int32.not_le.mp h28)]
      refine lv_istore_n hx hb d_LT_hold_42 rfl hl (by decide) rfl (fun ls hl => ?_)
      have hl : lv_has ls 4 [(3, .int 0), (0, .ref (ad 0)), (1, .ref (ad (80 + t))), (2, .ref (ad (5 + p)))] := hl
      refine lv_goto (tgt := 107) hx hb d_LT_hold_43 (by decide) ?_
      refine lv_iload_n hx hb d_LT_hold_107 rfl (lv_at hl 0 rfl) ?_
      refine lv_iconst (v := 1) hx hb d_LT_hold_108 (by decide) ?_
      refine lv_icmp_eq (tgt := 117) hx hb d_LT_hold_109 (by decide) (fun z => absurd z (by decide)) (fun _ => ?_)
      refine lv_aload_n hx hb d_LT_hold_112 rfl (lv_at hl 3 rfl) ?_
      refine lv_iconst (v := (-1)) hx hb d_LT_hold_113 (by decide) ?_
      refine nd_put9 X h (q := p) (by omega) gf_LT_145 d_LT_hold_114 (fun H locs h => ?_)
      refine lv_iload_n hx hb d_LT_hold_117 rfl (lv_at hl 0 rfl) ?_
      exact lk_reti X h d_LT_hold_118 (by rw [cc_holds, e0, if_neg (by show ¬ (0 : Int32) = 1; decide)]; exact ⟨rfl, rfl⟩)
noncomputable def cc_step0 (M : lk_M) (t p n v rt nq x a b na nb : Nat) : Int32 × lk_M :=
  if M 12 t = 3 ∧ M 18 t = -1 then (2, cc_fin M t 0) else if M 13 t = 0 then cc_searches M t p n v rt else if M 13 t = 1 then cc_lock M t p else cc_holds M t p n v rt nq x a b na nb
set_option maxRecDepth 20000 in
theorem c_LT_advance (l : Launch) (D : va_G) (τ : Nat → ClassId) (ad : Nat → Nat) (M : lk_M) (t p n v rt nq x a b na nb : Nat) (hph : M 13 t = 0 ∨ M 13 t = 1 ∨ M 13 t = 2) (hh : cc_spre M t p n v rt nq x a b na nb) : lk_Ci l D τ 88 ad (lk_ce τ ad) y_LT_advance b_LT_advance 3 (.int) 5 118 [.ref (ad 0), .ref (ad (80 + t))] M (fun r M1 => r = (cc_step0 M t p n v rt nq x a b na nb).1 ∧ M1 = (cc_step0 M t p n v rt nq x a b na nb).2) := by
  refine lk_openi (by decide +kernel) (Nat.le_of_ble_eq_true rfl) ?_
  intro pg en s m args below meth cd ls A X h hA hl
  obtain ⟨hx, hb, -⟩ := id X
  have hl : lv_has ls 3 [(0, .ref (ad 0)), (1, .ref (ad (80 + t)))] := hl
  have hh2 := hh
  obtain ⟨ht, hp, hpl, hrt, hr0, hnq, hq0, hok, hpo⟩ := hh2
  refine lv_aload_n hx hb d_LT_advance_0 rfl (lv_at hl 1 rfl) ?_
  refine ct_get X h (q0 := 80 + t) (by omega) (lk_ce_t (by omega)) rfl gl_TA 3 (by decide) rfl gf_LT_69 rfl d_LT_advance_1 ?_
  refine lv_iconst (v := 3) hx hb d_LT_advance_4 (by decide) ?_
  refine lv_icmp_ne (tgt := 23) hx hb d_LT_advance_5 (by decide) (fun h5 => ?_) (fun h5 => ?_)
  · refine lv_aload_n hx hb d_LT_advance_23 rfl (lv_at hl 0 rfl) ?_
    refine lv_aload_n hx hb d_LT_advance_24 rfl (lv_at hl 1 rfl) ?_
    refine ct_get X h (q0 := 80 + t) (by omega) (lk_ce_t (by omega)) rfl gl_TA 5 (by decide) rfl gf_LT_118 rfl d_LT_advance_25 ?_
    refine lk_top (nI p) (hpl) ?_
    refine lk_goq (lk_runV (As := [.int (nI p)]) (C := R_LT) X h (c_LT_nodeAt l D τ ad _ p hp) ⟨gc_LT_nodeAt, gm_LT_148, gn_LT, gd_LT_nodeAt, by decide, by decide⟩ gi_LT_nodeAt gs_LT_nodeAt ⟨0, 0, _, _, _, lk_w_get (by decide), rfl⟩ rfl hl.1 (Nat.le_of_ble_eq_true rfl) d_LT_advance_28 ⟨Nat.zero_le _, Nat.zero_le _⟩) h hA (fun r28 σ28 H locs hk9 h => ?_)
    rw [hk9.2] at h
    rw [hk9.1, show va_rf (some (ad (5 + p))) = .ref (ad (5 + p)) from rfl]
    refine lv_astore_n hx hb d_LT_advance_31 rfl hl (by decide) rfl (fun ls hl => ?_)
    have hl : lv_has ls 3 [(2, .ref (ad (5 + p))), (0, .ref (ad 0)), (1, .ref (ad (80 + t)))] := hl
    refine lv_aload_n hx hb d_LT_advance_32 rfl (lv_at hl 2 rfl) ?_
    refine ct_get X h (q0 := 80 + t) (by omega) (lk_ce_t (by omega)) rfl gl_TA 4 (by decide) rfl gf_LT_115 rfl d_LT_advance_33 ?_
    rcases hph with hph | hph | hph
    · rw [hph]
      refine lv_lookup (tgt := 64) (off := 28) hx hb d_LT_advance_36 (by decide) (by decide) (by decide) ?_
      refine lv_aload_n hx hb d_LT_advance_64 rfl (lv_at hl 1 rfl) ?_
      refine lv_aload_n hx hb d_LT_advance_65 rfl (lv_at hl 2 rfl) ?_
      refine lv_aload_n hx hb d_LT_advance_66 rfl (lv_at hl 0 rfl) ?_
      refine lk_goi (lk_runV (As := [.ref (ad (80 + t)), .ref (ad (5 + p))]) (C := R_LT) X h (c_LT_search l D τ ad M t p n v rt ht hp hrt hr0 (fun z => let ⟨q1, q2, q3, q4, _⟩ := hok z; ⟨q1, q2, q3, q4⟩)) ⟨gc_LT_search, gm_LT_179, gn_LT, gd_LT_search, by decide, by decide⟩ gi_LT_search gs_LT_search ⟨0, 0, _, _, _, lk_w_get (by decide), rfl⟩ rfl hl.1 (Nat.le_of_ble_eq_true rfl) d_LT_advance_67 ⟨Nat.zero_le _, Nat.zero_le _⟩) h hA (fun r67 σ67 H locs hk9 h => ?_)
      rw [hk9.2] at h
      rw [hk9.1]
      exact lk_reti X h d_LT_advance_70 (by rw [cc_step0, if_neg (fun z => h5 z.1), if_pos hph]; exact ⟨rfl, rfl⟩)
    · rw [hph]
      refine lv_lookup (tgt := 71) (off := 35) hx hb d_LT_advance_36 (by decide) (by decide) (by decide) ?_
      refine lv_aload_n hx hb d_LT_advance_71 rfl (lv_at hl 1 rfl) ?_
      refine lv_aload_n hx hb d_LT_advance_72 rfl (lv_at hl 2 rfl) ?_
      refine lv_aload_n hx hb d_LT_advance_73 rfl (lv_at hl 0 rfl) ?_
      refine lk_goi (lk_runV (As := [.ref (ad (80 + t)), .ref (ad (5 + p))]) (C := R_LT) X h (c_LT_lock l D τ ad M t p ht (by omega)) ⟨gc_LT_lock, gm_LT_183, gn_LT, gd_LT_lock, by decide, by decide⟩ gi_LT_lock gs_LT_lock ⟨0, 0, _, _, _, lk_w_get (by decide), rfl⟩ rfl hl.1 (Nat.le_of_ble_eq_true rfl) d_LT_advance_74 ⟨Nat.zero_le _, Nat.zero_le _⟩) h hA (fun r74 σ74 H locs hk9 h => ?_)
      rw [hk9.2] at h
      rw [hk9.1]
      exact lk_reti X h d_LT_advance_77 (by rw [cc_step0, if_neg (fun z => h5 z.1), if_neg (by rw [hph]; decide), if_pos hph]; exact ⟨rfl, rfl⟩)
    · rw [hph]
      refine lv_lookup (tgt := 78) (off := 42) hx hb d_LT_advance_36 (by decide) (by decide) (by decide) ?_
      refine lv_aload_n hx hb d_LT_advance_78 rfl (lv_at hl 1 rfl) ?_
      refine lv_aload_n hx hb d_LT_advance_79 rfl (lv_at hl 2 rfl) ?_
      refine lv_aload_n hx hb d_LT_advance_80 rfl (lv_at hl 0 rfl) ?_
      refine lk_goi (lk_runV (As := [.ref (ad (80 + t)), .ref (ad (5 + p))]) (C := R_LT) X h (c_LT_hold l D τ ad M t p n v rt nq x a b na nb (hpo hph)) ⟨gc_LT_hold, gm_LT_186, gn_LT, gd_LT_hold, by decide, by decide⟩ gi_LT_hold gs_LT_hold ⟨0, 0, _, _, _, lk_w_get (by decide), rfl⟩ rfl hl.1 (Nat.le_of_ble_eq_true rfl) d_LT_advance_81 ⟨Nat.zero_le _, Nat.zero_le _⟩) h hA (fun r81 σ81 H locs hk9 h => ?_)
      rw [hk9.2] at h
      rw [hk9.1]
      exact lk_reti X h d_LT_advance_84 (by rw [cc_step0, if_neg (fun z => h5 z.1), if_neg (by rw [hph]; decide), if_neg (by rw [hph]; decide)]; exact ⟨rfl, rfl⟩)
  · refine lv_aload_n hx hb d_LT_advance_8 rfl (lv_at hl 1 rfl) ?_
    refine ct_get X h (q0 := 80 + t) (by omega) (lk_ce_t (by omega)) rfl gl_TA 9 (by decide) rfl gf_LT_172 rfl d_LT_advance_9 ?_
    refine lv_iconst (v := (-1)) hx hb d_LT_advance_12 (by decide) ?_
    refine lv_icmp_ne (tgt := 23) hx hb d_LT_advance_13 (by decide) (fun h13 => ?_) (fun h13 => ?_)
    · refine lv_aload_n hx hb d_LT_advance_23 rfl (lv_at hl 0 rfl) ?_
      refine lv_aload_n hx hb d_LT_advance_24 rfl (lv_at hl 1 rfl) ?_
      refine ct_get X h (q0 := 80 + t) (by omega) (lk_ce_t (by omega)) rfl gl_TA 5 (by decide) rfl gf_LT_118 rfl d_LT_advance_25 ?_
      refine lk_top (nI p) (hpl) ?_
      refine lk_goq (lk_runV (As := [.int (nI p)]) (C := R_LT) X h (c_LT_nodeAt l D τ ad _ p hp) ⟨gc_LT_nodeAt, gm_LT_148, gn_LT, gd_LT_nodeAt, by decide, by decide⟩ gi_LT_nodeAt gs_LT_nodeAt ⟨0, 0, _, _, _, lk_w_get (by decide), rfl⟩ rfl hl.1 (Nat.le_of_ble_eq_true rfl) d_LT_advance_28 ⟨Nat.zero_le _, Nat.zero_le _⟩) h hA (fun r28 σ28 H locs hk9 h => ?_)
      rw [hk9.2] at h
      rw [hk9.1, show va_rf (some (ad (5 + p))) = .ref (ad (5 + p)) from rfl]
      refine lv_astore_n hx hb d_LT_advance_31 rfl hl (by decide) rfl (fun ls hl => ?_)
      have hl : lv_has ls 3 [(2, .ref (ad (5 + p))), (0, .ref (ad 0)), (1, .ref (ad (80 + t)))] := hl
      refine lv_aload_n hx hb d_LT_advance_32 rfl (lv_at hl 2 rfl) ?_
      refine ct_get X h (q0 := 80 + t) (by omega) (lk_ce_t (by omega)) rfl gl_TA 4 (by decide) rfl gf_LT_115 rfl d_LT_advance_33 ?_
      rcases hph with hph | hph | hph
      · rw [hph]
        refine lv_lookup (tgt := 64) (off := 28) hx hb d_LT_advance_36 (by decide) (by decide) (by decide) ?_
        refine lv_aload_n hx hb d_LT_advance_64 rfl (lv_at hl 1 rfl) ?_
        refine lv_aload_n hx hb d_LT_advance_65 rfl (lv_at hl 2 rfl) ?_
        refine lv_aload_n hx hb d_LT_advance_66 rfl (lv_at hl 0 rfl) ?_
        refine lk_goi (lk_runV (As := [.ref (ad (80 + t)), .ref (ad (5 + p))]) (C := R_LT) X h (c_LT_search l D τ ad M t p n v rt ht hp hrt hr0 (fun z => let ⟨q1, q2, q3, q4, _⟩ := hok z; ⟨q1, q2, q3, q4⟩)) ⟨gc_LT_search, gm_LT_179, gn_LT, gd_LT_search, by decide, by decide⟩ gi_LT_search gs_LT_search ⟨0, 0, _, _, _, lk_w_get (by decide), rfl⟩ rfl hl.1 (Nat.le_of_ble_eq_true rfl) d_LT_advance_67 ⟨Nat.zero_le _, Nat.zero_le _⟩) h hA (fun r67 σ67 H locs hk9 h => ?_)
        rw [hk9.2] at h
        rw [hk9.1]
        exact lk_reti X h d_LT_advance_70 (by rw [cc_step0, if_neg (fun z => h13 z.2), if_pos hph]; exact ⟨rfl, rfl⟩)
      · rw [hph]
        refine lv_lookup (tgt := 71) (off := 35) hx hb d_LT_advance_36 (by decide) (by decide) (by decide) ?_
        refine lv_aload_n hx hb d_LT_advance_71 rfl (lv_at hl 1 rfl) ?_
        refine lv_aload_n hx hb d_LT_advance_72 rfl (lv_at hl 2 rfl) ?_
        refine lv_aload_n hx hb d_LT_advance_73 rfl (lv_at hl 0 rfl) ?_
        refine lk_goi (lk_runV (As := [.ref (ad (80 + t)), .ref (ad (5 + p))]) (C := R_LT) X h (c_LT_lock l D τ ad M t p ht (by omega)) ⟨gc_LT_lock, gm_LT_183, gn_LT, gd_LT_lock, by decide, by decide⟩ gi_LT_lock gs_LT_lock ⟨0, 0, _, _, _, lk_w_get (by decide), rfl⟩ rfl hl.1 (Nat.le_of_ble_eq_true rfl) d_LT_advance_74 ⟨Nat.zero_le _, Nat.zero_le _⟩) h hA (fun r74 σ74 H locs hk9 h => ?_)
        rw [hk9.2] at h
        rw [hk9.1]
        exact lk_reti X h d_LT_advance_77 (by rw [cc_step0, if_neg (fun z => h13 z.2), if_neg (by rw [hph]; decide), if_pos hph]; exact ⟨rfl, rfl⟩)
      · rw [hph]
        refine lv_lookup (tgt := 78) (off := 42) hx hb d_LT_advance_36 (by decide) (by decide) (by decide) ?_
        refine lv_aload_n hx hb d_LT_advance_78 rfl (lv_at hl 1 rfl) ?_
        refine lv_aload_n hx hb d_LT_advance_79 rfl (lv_at hl 2 rfl) ?_
        refine lv_aload_n hx hb d_LT_advance_80 rfl (lv_at hl 0 rfl) ?_
        refine lk_goi (lk_runV (As := [.ref (ad (80 + t)), .ref (ad (5 + p))]) (C := R_LT) X h (c_LT_hold l D τ ad M t p n v rt nq x a b na nb (hpo hph)) ⟨gc_LT_hold, gm_LT_186, gn_LT, gd_LT_hold, by decide, by decide⟩ gi_LT_hold gs_LT_hold ⟨0, 0, _, _, _, lk_w_get (by decide), rfl⟩ rfl hl.1 (Nat.le_of_ble_eq_true rfl) d_LT_advance_81 ⟨Nat.zero_le _, Nat.zero_le _⟩) h hA (fun r81 σ81 H locs hk9 h => ?_)
        rw [hk9.2] at h
        rw [hk9.1]
        exact lk_reti X h d_LT_advance_84 (by rw [cc_step0, if_neg (fun z => h13 z.2), if_neg (by rw [hph]; decide), if_neg (by rw [hph]; decide)]; exact ⟨rfl, rfl⟩)
    · refine lv_aload_n hx hb d_LT_advance_16 rfl (lv_at hl 0 rfl) ?_
      refine lv_aload_n hx hb d_LT_advance_17 rfl (lv_at hl 1 rfl) ?_
      refine lv_iconst (v := 0) hx hb d_LT_advance_18 (by decide) ?_
      refine lk_goi (lk_runV (As := [.ref (ad (80 + t)), .int 0]) (C := R_LT) X h (c_LT_finish l D τ ad _ t ht 0) ⟨gc_LT_finish, gm_LT_175, gn_LT, gd_LT_finish, by decide, by decide⟩ gi_LT_finish gs_LT_finish ⟨0, 0, _, _, _, lk_w_get (by decide), rfl⟩ rfl hl.1 (Nat.le_of_ble_eq_true rfl) d_LT_advance_19 ⟨Nat.zero_le _, Nat.zero_le _⟩) h hA (fun r19 σ19 H locs hk9 h => ?_)
      rw [hk9.2] at h
      rw [hk9.1]
      exact lk_reti X h d_LT_advance_22 (by rw [cc_step0, if_pos ⟨h5, h13⟩]; exact ⟨rfl, rfl⟩)
