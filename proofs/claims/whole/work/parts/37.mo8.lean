/-- the first j entries of b behind a's -/
def lk_apL (σ : lk_M) (a b na : Nat) : Nat → lk_M
  | 0 => σ
  | j + 1 => lk_ins (lk_apL σ a b na j) a (na + j) (na + j) (lk_apL σ a b na j 7 (5 * b + j)) (lk_apL σ a b na j 8 (5 * b + j))
theorem lk_apL_f (σ : lk_M) (a b na : Nat) {f i : Nat} (h5 : f ≠ 5) (h7 : f ≠ 7) (h8 : f ≠ 8) : ∀ j, lk_apL σ a b na j f i = σ f i := by
  intro j
  induction j with
  | zero => rfl
  | succ j ih => exact (lk_ins_f h5 h7 h8).trans ih
theorem lk_apL_5 (σ : lk_M) (a b na : Nat) {i : Nat} (h : i ≠ a) : ∀ j, lk_apL σ a b na j 5 i = σ 5 i := by
  intro j
  induction j with
  | zero => rfl
  | succ j ih => exact lk_ins_5.trans ((if_neg h).trans ih)
theorem lk_apL_a (σ : lk_M) (a b na : Nat) (h : σ 5 a = nI na) : ∀ j, lk_apL σ a b na j 5 a = nI (na + j) := by
  intro j
  cases j with
  | zero => exact h
  | succ j => exact lk_ins_5.trans (if_pos rfl)
theorem mm_rel_f {σ : lk_M} {p f i : Nat} (h : f ≠ 0) : mm_rel σ p f i = σ f i := by
  unfold mm_rel
  by_cases c : σ 0 p = 2 ∧ σ 9 p = 0
  · rw [if_pos c, lk_st_f h]
  · rw [if_neg c]
theorem lk_lq_f {σ : lk_M} {x : Int32} {n f i : Nat} (h : f ≠ 10) (h2 : f ≠ 24) : lk_lq σ x n f i = σ f i := by
  unfold lk_lq
  simp only [lk_up_eq]
  rw [if_neg h2, if_neg h]
theorem mm_die_f {σ : lk_M} {p t n f i : Nat} (h0 : f ≠ 0) (h9 : f ≠ 9) (h10 : f ≠ 10) (h24 : f ≠ 24) : mm_die σ p t n f i = σ f i := by
  unfold mm_die
  rw [mm_rel_f h0, lk_st_f h9, lk_lq_f h10 h24, lk_st_f h0]
theorem mm_die_r {σ : lk_M} {p t n : Nat} : mm_die σ p t n 24 0 = σ 24 0 := by
  unfold mm_die
  rw [mm_rel_f (by decide), lk_st_f (by decide)]
  unfold lk_lq
  simp only [lk_up_eq, upd]
  simp
  rw [lk_st_f (by decide)]
theorem mm_die_q {σ : lk_M} {p t n : Nat} : mm_die σ p t n 24 1 = nI (lk_cmp (σ 10) (nI p) n).2 := by
  unfold mm_die
  rw [mm_rel_f (by decide), lk_st_f (by decide)]
  unfold lk_lq
  simp only [lk_up_eq, upd]
  simp
  congr 1
def lk_ji (c n : Nat) : Nat := if c + 1 = n then c - 1 else c
noncomputable def mm_merge (M : lk_M) (t p n i a b na nb rt nq : Nat) : lk_M :=
  if n - 1 = 1 then mm_shrinks (lk_st (lk_del (mm_die (lk_st (lk_st (lk_apL M a b na nb) 3 a (M 3 b)) 4 a (M 4 b)) b t nq) p i n) 8 (5 * p + i) (nI a)) t p rt (lk_cmp (M 10) (nI b) nq).2
  else lk_st (lk_del (mm_die (lk_st (lk_st (lk_apL M a b na nb) 3 a (M 3 b)) 4 a (M 4 b)) b t nq) p i n) 8 (5 * p + i) (nI a)
noncomputable def mm_joins (M : lk_M) (t p n x a b na nb rt nq c i : Nat) : Int32 × lk_M :=
  if M 0 x ≠ 1 ∨ ¬ c < n ∨ n = 1 then (2, mm_fin M t 0) else if M 6 a ≠ -1 ∨ M 6 b ≠ -1 then (1, M) else if M 3 a ≠ M 7 (5 * p + i) ∨ M 3 b ≠ M 7 (5 * p + i + 1) then (2, mm_fin M t 0)
  else if 4 < na + nb then (2, mm_fin (lk_st (mm_bal M a b na nb) 7 (5 * p + i) (lk_shr M a b na nb 7 (5 * a + (na + nb + 1) / 2 - 1))) t 1) else (2, mm_fin (mm_merge M t p n i a b na nb rt nq) t 1)
section
variable {pg : Program} {l : Launch} {en : Env} {R : Room} {s : State} {m : MethodId} {args : Array Value} {below : List Frame} {meth : Method} {cd : Code} {H : Heap} {locs : List Loc} {cells slots : Nat} {Q : State → Prop} {D : va_G} {τ : Nat → ClassId} {ad : Nat → Nat} {A : Nat → Prop} {H0 : Heap} {M : lk_M}
theorem w_MO_joins (X : lk_X pg s m args meth cd y_MO_joins b_MO_joins 7 (some (.int)) D τ) (hA : ∀ q, H0.size ≤ q → A q) (hR : 1 ≤ R.frames ∧ 23 ≤ R.locals) {a b na nb t p i : Nat} (ha : a < 24) (hb2 : b < 24) (hab : a ≠ b) (h5a : M 5 a = nI na) (h5b : M 5 b = nI nb) (hs : na + nb ≤ 4) : ∀ (r j : Nat), j + r = nb → ∀ (H : Heap) (locs : List Loc) (ls : Array Slot), lk_H D lk_cl A H0 (lk_w 25 ad (lk_me τ ad (lk_apL M a b na j))) H locs → lv_has ls 7 [(6, .int (nI (5 * b + j))), (5, .int (nI b)), (4, .int (nI a)), (3, .int (nI i)), (0, .ref (ad 0)), (1, .int (nI t)), (2, .int (nI p))] → (∀ (H : Heap) (locs : List Loc) (ls : Array Slot), lk_H D lk_cl A H0 (lk_w 25 ad (lk_me τ ad (lk_apL M a b na nb))) H locs → lv_has ls 7 [(6, .int (nI (5 * b + nb))), (5, .int (nI b)), (4, .int (nI a)), (3, .int (nI i)), (0, .ref (ad 0)), (1, .int (nI t)), (2, .int (nI p))] → W pg l en R s m args below meth cd H locs 0 0 Q (F0 m 259 ls [])) → W pg l en R s m args below meth cd H locs 0 0 Q (F0 m 216 ls []) := by
  obtain ⟨hx, hb, -⟩ := id X
  intro r
  induction r with
  | zero =>
    intro j hj H locs ls h hl kk
    have hj : j = nb := by omega
    subst hj
    have hcb := (lk_apL_5 M a b na (Ne.symm hab) j).trans h5b
    refine lv_iload hx hb d_MO_joins_216 (lv_at hl 0 rfl) ?_
    refine lv_iconst (v := nI 5) hx hb d_MO_joins_218 (by decide) ?_
    refine lv_iload hx hb d_MO_joins_219 (lv_at hl 1 rfl) ?_
    refine lk_imulN hx hb d_MO_joins_221 ?_
    refine lv_aload_n hx hb d_MO_joins_222 rfl (lv_at hl 4 rfl) ?_
    refine mo_get X rfl h 6 (by decide) rfl gf_MO_25 rfl d_MO_joins_223 ?_
    refine lv_iload hx hb d_MO_joins_226 (lv_at hl 1 rfl) ?_
    refine mo_ald X h 5 24 rfl (by decide) (j := b) (by omega) (by decide) d_MO_joins_228 ?_
    refine lk_top (nI j) (hcb) ?_
    refine lk_iaddN hx hb d_MO_joins_229 ?_
    refine lk_cN_ge (tgt := 259) hx hb (by omega) (by omega) d_MO_joins_230 (by decide) (fun h1 => ?_) (fun h1 => ?_)
    · exact kk H locs ls h hl
    · omega
  | succ r ih =>
    intro j hj H locs ls h hl kk
    have hcb := (lk_apL_5 M a b na (Ne.symm hab) j).trans h5b
    refine lv_iload hx hb d_MO_joins_216 (lv_at hl 0 rfl) ?_
    refine lv_iconst (v := nI 5) hx hb d_MO_joins_218 (by decide) ?_
    refine lv_iload hx hb d_MO_joins_219 (lv_at hl 1 rfl) ?_
    refine lk_imulN hx hb d_MO_joins_221 ?_
    refine lv_aload_n hx hb d_MO_joins_222 rfl (lv_at hl 4 rfl) ?_
    refine mo_get X rfl h 6 (by decide) rfl gf_MO_25 rfl d_MO_joins_223 ?_
    refine lv_iload hx hb d_MO_joins_226 (lv_at hl 1 rfl) ?_
    refine mo_ald X h 5 24 rfl (by decide) (j := b) (by omega) (by decide) d_MO_joins_228 ?_
    refine lk_top (nI nb) (hcb) ?_
    refine lk_iaddN hx hb d_MO_joins_229 ?_
    refine lk_cN_ge (tgt := 259) hx hb (by omega) (by omega) d_MO_joins_230 (by decide) (fun h1 => ?_) (fun h1 => ?_)
    · omega
    · refine lv_aload_n hx hb d_MO_joins_233 rfl (lv_at hl 4 rfl) ?_
      refine lv_iload hx hb d_MO_joins_234 (lv_at hl 2 rfl) ?_
      refine lv_aload_n hx hb d_MO_joins_236 rfl (lv_at hl 4 rfl) ?_
      refine mo_get X rfl h 8 (by decide) rfl gf_MO_31 rfl d_MO_joins_237 ?_
      refine lv_iload hx hb d_MO_joins_240 (lv_at hl 0 rfl) ?_
      refine mo_ald X h 7 120 rfl (by decide) (j := 5 * b + j) (by omega) (by decide) d_MO_joins_242 ?_
      refine lv_aload_n hx hb d_MO_joins_243 rfl (lv_at hl 4 rfl) ?_
      refine mo_get X rfl h 9 (by decide) rfl gf_MO_34 rfl d_MO_joins_244 ?_
      refine lv_iload hx hb d_MO_joins_247 (lv_at hl 0 rfl) ?_
      refine mo_ald X h 8 120 rfl (by decide) (j := 5 * b + j) (by omega) (by decide) d_MO_joins_249 ?_
      refine lk_gov (lk_runV (As := [.int (nI a), .int ((lk_apL M a b na j) 7 (5 * b + j)), .int ((lk_apL M a b na j) 8 (5 * b + j))]) (C := R_MO) X h (c_MO_append l D τ ad _ a (na + j) ha (lk_apL_a M a b na h5a j) (by omega) _ _) ⟨gc_MO_append, gm_MO_154, gn_MO, gd_MO_append, hR.1, Nat.le_trans (by decide) hR.2⟩ gi_MO_append gs_MO_append ⟨0, 4, _, _, _, lk_w_get (by decide), rfl⟩ rfl hl.1 (Nat.le_of_ble_eq_true rfl) d_MO_joins_250 ⟨Nat.zero_le _, Nat.zero_le _⟩) h hA (fun σ250 H locs hk9 h => ?_)
      rw [hk9] at h
      refine lv_iinc (k := 0) (v := nI (5 * b + j + 1)) hx hb d_MO_joins_253 hl rfl (nI_1 _) (by decide) rfl (fun ls hl => ?_)
      have hl : lv_has ls 7 [(6, .int (nI (5 * b + j + 1))), (5, .int (nI b)), (4, .int (nI a)), (3, .int (nI i)), (0, .ref (ad 0)), (1, .int (nI t)), (2, .int (nI p))] := hl
      refine lv_goto (tgt := 216) hx hb d_MO_joins_256 (by decide) ?_
      exact ih (j + 1) (by omega) H locs ls h hl kk
end
set_option maxRecDepth 20000 in
theorem c_MO_joins (l : Launch) (D : va_G) (τ : Nat → ClassId) (ad : Nat → Nat) (M : lk_M) (t p n x a b na nb rt nq c i : Nat) (ht : t < 4) (hp : p < 24) (hx2 : x < 24) (habt : M 18 t = nI x) (hc : M 5 p = nI n) (hn1 : 1 ≤ n) (hn : n ≤ 4) (hrt : rt < 24) (hr0 : M 24 0 = nI rt) (hnq : nq ≤ 12) (hq0 : M 24 1 = nI nq) (hch : lk_ch M p n (nI x) = c) (hji : lk_ji c n = i) (hpr : c < n → 2 ≤ n → M 8 (5 * p + i) = nI a ∧ M 8 (5 * p + i + 1) = nI b ∧ a < 24 ∧ b < 24 ∧ a ≠ b ∧ a ≠ p ∧ b ≠ p ∧ M 5 a = nI na ∧ M 5 b = nI nb ∧ na ≤ 4 ∧ nb ≤ 4) : lk_Ci l D τ 25 ad (lk_me τ ad) y_MO_joins b_MO_joins 7 (.int) 3 68 [.ref (ad 0), .int (nI t), .int (nI p)] M (fun r M1 => r = (mm_joins M t p n x a b na nb rt nq c i).1 ∧ M1 = (mm_joins M t p n x a b na nb rt nq c i).2) := by
  refine lk_openi (by decide +kernel) (Nat.le_of_ble_eq_true rfl) ?_
  intro pg en s m args below meth cd ls A X h hA hl
  obtain ⟨hx, hb, -⟩ := id X
  have hl : lv_has ls 7 [(0, .ref (ad 0)), (1, .int (nI t)), (2, .int (nI p))] := hl
  refine lv_aload_n hx hb d_MO_joins_0 rfl (lv_at hl 0 rfl) ?_
  refine lv_iload_n hx hb d_MO_joins_1 rfl (lv_at hl 2 rfl) ?_
  refine lv_aload_n hx hb d_MO_joins_2 rfl (lv_at hl 0 rfl) ?_
  refine mo_get X rfl h 21 (by decide) rfl gf_MO_65 rfl d_MO_joins_3 ?_
  refine lv_iload_n hx hb d_MO_joins_6 rfl (lv_at hl 1 rfl) ?_
  refine mo_ald X h 18 4 rfl (by decide) (j := t) (by omega) (by decide) d_MO_joins_7 ?_
  refine lk_top (nI x) (habt) ?_
  refine lk_goi (lk_runV (As := [.int (nI p), .int (nI x)]) (C := R_MO) X h (c_MO_childOf l D τ ad M p n hp hc (by omega) (nI x)) ⟨gc_MO_childOf, gm_MO_192, gn_MO, gd_MO_childOf, by decide, by decide⟩ gi_MO_childOf gs_MO_childOf ⟨0, 4, _, _, _, lk_w_get (by decide), rfl⟩ rfl hl.1 (Nat.le_of_ble_eq_true rfl) d_MO_joins_8 ⟨Nat.zero_le _, Nat.zero_le _⟩) h hA (fun r8 σ8 H locs hk9 h => ?_)
  rw [hk9.2] at h
  rw [hk9.1, hch]
  by_cases hcn : c < n
  · rw [show lk_nn c n = nI c from if_pos hcn]
    refine lv_istore_n hx hb d_MO_joins_11 rfl hl (by decide) rfl (fun ls hl => ?_)
    have hl : lv_has ls 7 [(3, .int (nI c)), (0, .ref (ad 0)), (1, .int (nI t)), (2, .int (nI p))] := hl
    refine lv_aload_n hx hb d_MO_joins_12 rfl (lv_at hl 1 rfl) ?_
    refine mo_get X rfl h 1 (by decide) rfl gf_MO_7 rfl d_MO_joins_13 ?_
    refine lv_aload_n hx hb d_MO_joins_16 rfl (lv_at hl 1 rfl) ?_
    refine mo_get X rfl h 21 (by decide) rfl gf_MO_65 rfl d_MO_joins_17 ?_
    refine lv_iload_n hx hb d_MO_joins_20 rfl (lv_at hl 2 rfl) ?_
    refine mo_ald X h 18 4 rfl (by decide) (j := t) (by omega) (by decide) d_MO_joins_21 ?_
    refine lk_top (nI x) (habt) ?_
    refine mo_ald X h 0 24 rfl (by decide) (j := x) (by omega) (by decide) d_MO_joins_22 ?_
    refine lv_iconst (v := 1) hx hb d_MO_joins_23 (by decide) ?_
    refine lv_icmp_ne (tgt := 42) hx hb d_MO_joins_24 (by decide) (fun h1 => ?_) (fun h1 => ?_)
    · refine lv_aload_n hx hb d_MO_joins_42 rfl (lv_at hl 1 rfl) ?_
      refine lv_iload_n hx hb d_MO_joins_43 rfl (lv_at hl 2 rfl) ?_
      refine lv_iconst (v := 0) hx hb d_MO_joins_44 (by decide) ?_
      refine lk_goi (lk_runV (As := [.int (nI t), .int 0]) (C := R_MO) X h (c_MO_finish l D τ ad _ t ht 0) ⟨gc_MO_finish, gm_MO_126, gn_MO, gd_MO_finish, by decide, by decide⟩ gi_MO_finish gs_MO_finish ⟨0, 4, _, _, _, lk_w_get (by decide), rfl⟩ rfl hl.1 (Nat.le_of_ble_eq_true rfl) d_MO_joins_45 ⟨Nat.zero_le _, Nat.zero_le _⟩) h hA (fun r45 σ45 H locs hk9 h => ?_)
      rw [hk9.2] at h
      rw [hk9.1]
      exact lk_reti X h d_MO_joins_48 (by rw [mm_joins, if_pos (Or.inl h1)]; exact ⟨rfl, rfl⟩)
    · refine lv_iload_n hx hb d_MO_joins_27 rfl (lv_at hl 0 rfl) ?_
      refine lv_iconst (v := (-1)) hx hb d_MO_joins_28 (by decide) ?_
      refine lv_icmp_eq (tgt := 42) hx hb d_MO_joins_29 (by decide) (fun h2 => ?_) (fun h2 => ?_)
      · exact absurd h2 (lk_nI_m1 (by omega))
      · refine lv_aload_n hx hb d_MO_joins_32 rfl (lv_at hl 1 rfl) ?_
        refine mo_get X rfl h 6 (by decide) rfl gf_MO_25 rfl d_MO_joins_33 ?_
        refine lv_iload_n hx hb d_MO_joins_36 rfl (lv_at hl 3 rfl) ?_
        refine mo_ald X h 5 24 rfl (by decide) (j := p) (by omega) (by decide) d_MO_joins_37 ?_
        refine lk_top (nI n) (hc) ?_
        refine lv_iconst (v := nI 1) hx hb d_MO_joins_38 (by decide) ?_
        refine lk_cN_ne (tgt := 49) hx hb (by omega) (by omega) d_MO_joins_39 (by decide) (fun h3 => ?_) (fun h3 => ?_)
        · obtain ⟨p1, p2, ha, hb2, hab, hap, hbp, h5a, h5b, hna, hnb⟩ := hpr hcn (by omega)
          refine lv_iload_n hx hb d_MO_joins_49 rfl (lv_at hl 0 rfl) ?_
          refine lv_aload_n hx hb d_MO_joins_50 rfl (lv_at hl 1 rfl) ?_
          refine mo_get X rfl h 6 (by decide) rfl gf_MO_25 rfl d_MO_joins_51 ?_
          refine lv_iload_n hx hb d_MO_joins_54 rfl (lv_at hl 3 rfl) ?_
          refine mo_ald X h 5 24 rfl (by decide) (j := p) (by omega) (by decide) d_MO_joins_55 ?_
          refine lk_top (nI n) (hc) ?_
          refine lv_iconst (v := nI 1) hx hb d_MO_joins_56 (by decide) ?_
          refine lk_isubN hx hb (by omega) d_MO_joins_57 ?_
          refine lk_cN_ne (tgt := 64) hx hb (by omega) (by omega) d_MO_joins_58 (by decide) (fun h4 => ?_) (fun h4 => ?_)
          · have ei : c = i := by rw [← hji]; exact (if_neg (by omega)).symm
            rw [ei] at hl
            refine lv_aload_n hx hb d_MO_joins_64 rfl (lv_at hl 1 rfl) ?_
            refine mo_get X rfl h 9 (by decide) rfl gf_MO_34 rfl d_MO_joins_65 ?_
            refine lv_iconst (v := nI 5) hx hb d_MO_joins_68 (by decide) ?_
            refine lv_iload_n hx hb d_MO_joins_69 rfl (lv_at hl 3 rfl) ?_
            refine lk_imulN hx hb d_MO_joins_70 ?_
            refine lv_iload_n hx hb d_MO_joins_71 rfl (lv_at hl 0 rfl) ?_
            refine lk_iaddN hx hb d_MO_joins_72 ?_
            refine mo_ald X h 8 120 rfl (by decide) (j := 5 * p + i) (by omega) (by decide) d_MO_joins_73 ?_
            refine lk_top (nI a) (p1) ?_
            refine lv_istore hx hb d_MO_joins_74 hl (by decide) rfl (fun ls hl => ?_)
            have hl : lv_has ls 7 [(4, .int (nI a)), (3, .int (nI i)), (0, .ref (ad 0)), (1, .int (nI t)), (2, .int (nI p))] := hl
            refine lv_aload_n hx hb d_MO_joins_76 rfl (lv_at hl 2 rfl) ?_
            refine mo_get X rfl h 9 (by decide) rfl gf_MO_34 rfl d_MO_joins_77 ?_
            refine lv_iconst (v := nI 5) hx hb d_MO_joins_80 (by decide) ?_
            refine lv_iload_n hx hb d_MO_joins_81 rfl (lv_at hl 4 rfl) ?_
            refine lk_imulN hx hb d_MO_joins_82 ?_
            refine lv_iload_n hx hb d_MO_joins_83 rfl (lv_at hl 1 rfl) ?_
            refine lk_iaddN hx hb d_MO_joins_84 ?_
            refine lv_iconst (v := nI 1) hx hb d_MO_joins_85 (by decide) ?_
            refine lk_iaddN hx hb d_MO_joins_86 ?_
            refine mo_ald X h 8 120 rfl (by decide) (j := 5 * p + i + 1) (by omega) (by decide) d_MO_joins_87 ?_
            refine lk_top (nI b) (p2) ?_
            refine lv_istore hx hb d_MO_joins_88 hl (by decide) rfl (fun ls hl => ?_)
            have hl : lv_has ls 7 [(5, .int (nI b)), (4, .int (nI a)), (3, .int (nI i)), (0, .ref (ad 0)), (1, .int (nI t)), (2, .int (nI p))] := hl
            refine lv_aload_n hx hb d_MO_joins_90 rfl (lv_at hl 3 rfl) ?_
            refine mo_get X rfl h 7 (by decide) rfl gf_MO_28 rfl d_MO_joins_91 ?_
            refine lv_iload hx hb d_MO_joins_94 (lv_at hl 1 rfl) ?_
            refine mo_ald X h 6 24 rfl (by decide) (j := a) (by omega) (by decide) d_MO_joins_96 ?_
            refine lv_iconst (v := (-1)) hx hb d_MO_joins_97 (by decide) ?_
            refine lv_icmp_ne (tgt := 112) hx hb d_MO_joins_98 (by decide) (fun h5 => ?_) (fun h5 => ?_)
            · refine lv_iconst (v := 1) hx hb d_MO_joins_112 (by decide) ?_
              exact lk_reti X h d_MO_joins_113 (by rw [mm_joins, if_neg (show ¬ (M 0 x ≠ 1 ∨ ¬ c < n ∨ n = 1) from fun z => z.elim (fun q => q h1) (fun q => q.elim (fun q => q hcn) h3)), if_pos (Or.inl h5)]; exact ⟨rfl, rfl⟩)
            · refine lv_aload_n hx hb d_MO_joins_101 rfl (lv_at hl 3 rfl) ?_
              refine mo_get X rfl h 7 (by decide) rfl gf_MO_28 rfl d_MO_joins_102 ?_
              refine lv_iload hx hb d_MO_joins_105 (lv_at hl 0 rfl) ?_
              refine mo_ald X h 6 24 rfl (by decide) (j := b) (by omega) (by decide) d_MO_joins_107 ?_
              refine lv_iconst (v := (-1)) hx hb d_MO_joins_108 (by decide) ?_
              refine lv_icmp_eq (tgt := 114) hx hb d_MO_joins_109 (by decide) (fun h6 => ?_) (fun h6 => ?_)
              · refine lv_aload_n hx hb d_MO_joins_114 rfl (lv_at hl 3 rfl) ?_
                refine mo_get X rfl h 4 (by decide) rfl gf_MO_19 rfl d_MO_joins_115 ?_
                refine lv_iload hx hb d_MO_joins_118 (lv_at hl 1 rfl) ?_
                refine mo_ald X h 3 24 rfl (by decide) (j := a) (by omega) (by decide) d_MO_joins_120 ?_
                refine lv_aload_n hx hb d_MO_joins_121 rfl (lv_at hl 3 rfl) ?_
                refine mo_get X rfl h 8 (by decide) rfl gf_MO_31 rfl d_MO_joins_122 ?_
                refine lv_iconst (v := nI 5) hx hb d_MO_joins_125 (by decide) ?_
                refine lv_iload_n hx hb d_MO_joins_126 rfl (lv_at hl 5 rfl) ?_
                refine lk_imulN hx hb d_MO_joins_127 ?_
                refine lv_iload_n hx hb d_MO_joins_128 rfl (lv_at hl 2 rfl) ?_
                refine lk_iaddN hx hb d_MO_joins_129 ?_
                refine mo_ald X h 7 120 rfl (by decide) (j := 5 * p + i) (by omega) (by decide) d_MO_joins_130 ?_
                refine lv_icmp_ne (tgt := 156) hx hb d_MO_joins_131 (by decide) (fun h7 => ?_) (fun h7 => ?_)
                · refine lv_aload_n hx hb d_MO_joins_156 rfl (lv_at hl 3 rfl) ?_
                  refine lv_iload_n hx hb d_MO_joins_157 rfl (lv_at hl 4 rfl) ?_
                  refine lv_iconst (v := 0) hx hb d_MO_joins_158 (by decide) ?_
                  refine lk_goi (lk_runV (As := [.int (nI t), .int 0]) (C := R_MO) X h (c_MO_finish l D τ ad _ t ht 0) ⟨gc_MO_finish, gm_MO_126, gn_MO, gd_MO_finish, by decide, by decide⟩ gi_MO_finish gs_MO_finish ⟨0, 4, _, _, _, lk_w_get (by decide), rfl⟩ rfl hl.1 (Nat.le_of_ble_eq_true rfl) d_MO_joins_159 ⟨Nat.zero_le _, Nat.zero_le _⟩) h hA (fun r159 σ159 H locs hk9 h => ?_)
                  rw [hk9.2] at h
                  rw [hk9.1]
                  exact lk_reti X h d_MO_joins_162 (by rw [mm_joins, if_neg (show ¬ (M 0 x ≠ 1 ∨ ¬ c < n ∨ n = 1) from fun z => z.elim (fun q => q h1) (fun q => q.elim (fun q => q hcn) h3)), if_neg (show ¬ (M 6 a ≠ -1 ∨ M 6 b ≠ -1) from fun z => z.elim (fun q => q h5) (fun q => q h6)), if_pos (Or.inl h7)]; exact ⟨rfl, rfl⟩)
                · refine lv_aload_n hx hb d_MO_joins_134 rfl (lv_at hl 3 rfl) ?_
                  refine mo_get X rfl h 4 (by decide) rfl gf_MO_19 rfl d_MO_joins_135 ?_
                  refine lv_iload hx hb d_MO_joins_138 (lv_at hl 0 rfl) ?_
                  refine mo_ald X h 3 24 rfl (by decide) (j := b) (by omega) (by decide) d_MO_joins_140 ?_
                  refine lv_aload_n hx hb d_MO_joins_141 rfl (lv_at hl 3 rfl) ?_
                  refine mo_get X rfl h 8 (by decide) rfl gf_MO_31 rfl d_MO_joins_142 ?_
                  refine lv_iconst (v := nI 5) hx hb d_MO_joins_145 (by decide) ?_
                  refine lv_iload_n hx hb d_MO_joins_146 rfl (lv_at hl 5 rfl) ?_
                  refine lk_imulN hx hb d_MO_joins_147 ?_
                  refine lv_iload_n hx hb d_MO_joins_148 rfl (lv_at hl 2 rfl) ?_
                  refine lk_iaddN hx hb d_MO_joins_149 ?_
                  refine lv_iconst (v := nI 1) hx hb d_MO_joins_150 (by decide) ?_
                  refine lk_iaddN hx hb d_MO_joins_151 ?_
                  refine mo_ald X h 7 120 rfl (by decide) (j := 5 * p + i + 1) (by omega) (by decide) d_MO_joins_152 ?_
                  refine lv_icmp_eq (tgt := 163) hx hb d_MO_joins_153 (by decide) (fun h8 => ?_) (fun h8 => ?_)
                  · refine lv_aload_n hx hb d_MO_joins_163 rfl (lv_at hl 3 rfl) ?_
                    refine mo_get X rfl h 6 (by decide) rfl gf_MO_25 rfl d_MO_joins_164 ?_
                    refine lv_iload hx hb d_MO_joins_167 (lv_at hl 1 rfl) ?_
                    refine mo_ald X h 5 24 rfl (by decide) (j := a) (by omega) (by decide) d_MO_joins_169 ?_
                    refine lk_top (nI na) (h5a) ?_
                    refine lv_aload_n hx hb d_MO_joins_170 rfl (lv_at hl 3 rfl) ?_
                    refine mo_get X rfl h 6 (by decide) rfl gf_MO_25 rfl d_MO_joins_171 ?_
                    refine lv_iload hx hb d_MO_joins_174 (lv_at hl 0 rfl) ?_
                    refine mo_ald X h 5 24 rfl (by decide) (j := b) (by omega) (by decide) d_MO_joins_176 ?_
                    refine lk_top (nI nb) (h5b) ?_
                    refine lk_iaddN hx hb d_MO_joins_177 ?_
                    refine lv_iconst (v := nI 4) hx hb d_MO_joins_178 (by decide) ?_
                    refine lk_cN_le (tgt := 210) hx hb (by omega) (by omega) d_MO_joins_179 (by decide) (fun h9 => ?_) (fun h9 => ?_)
                    · refine lv_iconst (v := nI 5) hx hb d_MO_joins_210 (by decide) ?_
                      refine lv_iload hx hb d_MO_joins_211 (lv_at hl 0 rfl) ?_
                      refine lk_imulN hx hb d_MO_joins_213 ?_
                      refine lv_istore hx hb d_MO_joins_214 hl (by decide) rfl (fun ls hl => ?_)
                      have hl : lv_has ls 7 [(6, .int (nI (5 * b))), (5, .int (nI b)), (4, .int (nI a)), (3, .int (nI i)), (0, .ref (ad 0)), (1, .int (nI t)), (2, .int (nI p))] := hl
                      refine w_MO_joins X hA (by decide) ha hb2 hab h5a h5b h9 nb 0 (by omega) _ _ ls h hl (fun H locs ls h hl => ?_)
                      refine lv_aload_n hx hb d_MO_joins_259 rfl (lv_at hl 4 rfl) ?_
                      refine mo_get X rfl h 4 (by decide) rfl gf_MO_19 rfl d_MO_joins_260 ?_
                      refine lv_iload hx hb d_MO_joins_263 (lv_at hl 2 rfl) ?_
                      refine lv_aload_n hx hb d_MO_joins_265 rfl (lv_at hl 4 rfl) ?_
                      refine mo_get X rfl h 4 (by decide) rfl gf_MO_19 rfl d_MO_joins_266 ?_
                      refine lv_iload hx hb d_MO_joins_269 (lv_at hl 1 rfl) ?_
                      refine mo_ald X h 3 24 rfl (by decide) (j := b) (by omega) (by decide) d_MO_joins_271 ?_
                      refine lk_top (M 3 b) (lk_apL_f M a b na (by decide) (by decide) (by decide) nb) ?_
                      refine mo_ast X h 3 24 rfl (by decide) (j := a) (v := M 3 b) (by omega) (by decide) d_MO_joins_272 (fun H locs h => ?_)
                      refine lv_aload_n hx hb d_MO_joins_273 rfl (lv_at hl 4 rfl) ?_
                      refine mo_get X rfl h 5 (by decide) rfl gf_MO_22 rfl d_MO_joins_274 ?_
                      refine lv_iload hx hb d_MO_joins_277 (lv_at hl 2 rfl) ?_
                      refine lv_aload_n hx hb d_MO_joins_279 rfl (lv_at hl 4 rfl) ?_
                      refine mo_get X rfl h 5 (by decide) rfl gf_MO_22 rfl d_MO_joins_280 ?_
                      refine lv_iload hx hb d_MO_joins_283 (lv_at hl 1 rfl) ?_
                      refine mo_ald X h 4 24 rfl (by decide) (j := b) (by omega) (by decide) d_MO_joins_285 ?_
                      refine lk_top (M 4 b) ((lk_st_f (by decide)).trans (lk_apL_f M a b na (by decide) (by decide) (by decide) nb)) ?_
                      refine mo_ast X h 4 24 rfl (by decide) (j := a) (v := M 4 b) (by omega) (by decide) d_MO_joins_286 (fun H locs h => ?_)
                      refine lv_aload_n hx hb d_MO_joins_287 rfl (lv_at hl 4 rfl) ?_
                      refine lv_iload hx hb d_MO_joins_288 (lv_at hl 1 rfl) ?_
                      refine lv_iload_n hx hb d_MO_joins_290 rfl (lv_at hl 5 rfl) ?_
                      refine lk_gov (lk_runV (As := [.int (nI b), .int (nI t)]) (C := R_MO) X h (c_MO_die l D τ ad (lk_st (lk_st (lk_apL M a b na nb) 3 a (M 3 b)) 4 a (M 4 b)) b t nq hb2 ht ((lk_st_f (by decide)).trans ((lk_st_f (by decide)).trans ((lk_apL_f M a b na (by decide) (by decide) (by decide) nb).trans hq0))) hnq) ⟨gc_MO_die, gm_MO_198, gn_MO, gd_MO_die, by decide, by decide⟩ gi_MO_die gs_MO_die ⟨0, 4, _, _, _, lk_w_get (by decide), rfl⟩ rfl hl.1 (Nat.le_of_ble_eq_true rfl) d_MO_joins_291 ⟨Nat.zero_le _, Nat.zero_le _⟩) h hA (fun σ291 H locs hk9 h => ?_)
                      rw [hk9] at h
                      have hc5 : (mm_die (lk_st (lk_st (lk_apL M a b na nb) 3 a (M 3 b)) 4 a (M 4 b)) b t nq) 5 p = nI n := (mm_die_f (by decide) (by decide) (by decide) (by decide)).trans ((lk_st_f (by decide)).trans ((lk_st_f (by decide)).trans ((lk_apL_5 M a b na (Ne.symm hap) nb).trans hc)))
                      refine lv_aload_n hx hb d_MO_joins_294 rfl (lv_at hl 4 rfl) ?_
                      refine lv_iload_n hx hb d_MO_joins_295 rfl (lv_at hl 6 rfl) ?_
                      refine lv_iload_n hx hb d_MO_joins_296 rfl (lv_at hl 3 rfl) ?_
                      refine lk_gov (lk_runV (As := [.int (nI p), .int (nI i)]) (C := R_MO) X h (c_MO_takeOut l D τ ad _ p i n hp hc5 (by omega) (by omega)) ⟨gc_MO_takeOut, gm_MO_186, gn_MO, gd_MO_takeOut, by decide, by decide⟩ gi_MO_takeOut gs_MO_takeOut ⟨0, 4, _, _, _, lk_w_get (by decide), rfl⟩ rfl hl.1 (Nat.le_of_ble_eq_true rfl) d_MO_joins_297 ⟨Nat.zero_le _, Nat.zero_le _⟩) h hA (fun σ297 H locs hk9 h => ?_)
                      rw [hk9] at h
                      refine lv_aload_n hx hb d_MO_joins_300 rfl (lv_at hl 4 rfl) ?_
                      refine mo_get X rfl h 9 (by decide) rfl gf_MO_34 rfl d_MO_joins_301 ?_
                      refine lv_iconst (v := nI 5) hx hb d_MO_joins_304 (by decide) ?_
                      refine lv_iload_n hx hb d_MO_joins_305 rfl (lv_at hl 6 rfl) ?_
                      refine lk_imulN hx hb d_MO_joins_306 ?_
                      refine lv_iload_n hx hb d_MO_joins_307 rfl (lv_at hl 3 rfl) ?_
                      refine lk_iaddN hx hb d_MO_joins_308 ?_
                      refine lv_iload hx hb d_MO_joins_309 (lv_at hl 2 rfl) ?_
                      refine mo_ast X h 8 120 rfl (by decide) (j := 5 * p + i) (v := nI a) (by omega) (by decide) d_MO_joins_311 (fun H locs h => ?_)
                      refine lv_aload_n hx hb d_MO_joins_312 rfl (lv_at hl 4 rfl) ?_
                      refine mo_get X rfl h 6 (by decide) rfl gf_MO_25 rfl d_MO_joins_313 ?_
                      refine lv_iload_n hx hb d_MO_joins_316 rfl (lv_at hl 6 rfl) ?_
                      refine mo_ald X h 5 24 rfl (by decide) (j := p) (by omega) (by decide) d_MO_joins_317 ?_
                      refine lk_top (nI (n - 1)) ((lk_st_f (by decide)).trans (lk_del_5.trans (if_pos rfl))) ?_
                      refine lv_iconst (v := nI 1) hx hb d_MO_joins_318 (by decide) ?_
                      refine lk_cN_ne (tgt := 328) hx hb (by omega) (by omega) d_MO_joins_319 (by decide) (fun h10 => ?_) (fun h10 => ?_)
                      · refine lv_aload_n hx hb d_MO_joins_328 rfl (lv_at hl 4 rfl) ?_
                        refine lv_iload_n hx hb d_MO_joins_329 rfl (lv_at hl 5 rfl) ?_
                        refine lv_iconst (v := 1) hx hb d_MO_joins_330 (by decide) ?_
                        refine lk_goi (lk_runV (As := [.int (nI t), .int 1]) (C := R_MO) X h (c_MO_finish l D τ ad _ t ht 1) ⟨gc_MO_finish, gm_MO_126, gn_MO, gd_MO_finish, by decide, by decide⟩ gi_MO_finish gs_MO_finish ⟨0, 4, _, _, _, lk_w_get (by decide), rfl⟩ rfl hl.1 (Nat.le_of_ble_eq_true rfl) d_MO_joins_331 ⟨Nat.zero_le _, Nat.zero_le _⟩) h hA (fun r331 σ331 H locs hk9 h => ?_)
                        rw [hk9.2] at h
                        rw [hk9.1]
                        exact lk_reti X h d_MO_joins_334 (by rw [mm_joins, if_neg (show ¬ (M 0 x ≠ 1 ∨ ¬ c < n ∨ n = 1) from fun z => z.elim (fun q => q h1) (fun q => q.elim (fun q => q hcn) h3)), if_neg (show ¬ (M 6 a ≠ -1 ∨ M 6 b ≠ -1) from fun z => z.elim (fun q => q h5) (fun q => q h6)), if_neg (show ¬ (M 3 a ≠ M 7 (5 * p + i) ∨ M 3 b ≠ M 7 (5 * p + i + 1)) from fun z => z.elim (fun q => q h7) (fun q => q h8)), if_neg (show ¬ 4 < na + nb by omega), mm_merge, if_neg h10]; exact ⟨rfl, rfl⟩)
                      · have hq9 : (lk_cmp (M 10) (nI b) nq).2 ≤ 12 := Nat.le_trans (lk_cmp_le _ _ _) hnq
                        have e10 : (lk_st (lk_st (lk_apL M a b na nb) 3 a (M 3 b)) 4 a (M 4 b)) 10 = M 10 := by funext z; exact (lk_st_f (by decide)).trans ((lk_st_f (by decide)).trans (lk_apL_f M a b na (by decide) (by decide) (by decide) nb))
                        refine lv_aload_n hx hb d_MO_joins_322 rfl (lv_at hl 4 rfl) ?_
                        refine lv_iload_n hx hb d_MO_joins_323 rfl (lv_at hl 5 rfl) ?_
                        refine lv_iload_n hx hb d_MO_joins_324 rfl (lv_at hl 6 rfl) ?_
                        refine lk_gov (lk_runV (As := [.int (nI t), .int (nI p)]) (C := R_MO) X h (c_MO_shrinks l D τ ad _ t p rt (lk_cmp (M 10) (nI b) nq).2 ht hp hrt ((lk_st_f (by decide)).trans ((lk_del_f (by decide) (by decide) (by decide)).trans (mm_die_r.trans ((lk_st_f (by decide)).trans ((lk_st_f (by decide)).trans ((lk_apL_f M a b na (by decide) (by decide) (by decide) nb).trans hr0)))))) hq9 ((lk_st_f (by decide)).trans ((lk_del_f (by decide) (by decide) (by decide)).trans (mm_die_q.trans (by rw [e10]))))) ⟨gc_MO_shrinks, gm_MO_201, gn_MO, gd_MO_shrinks, by decide, by decide⟩ gi_MO_shrinks gs_MO_shrinks ⟨0, 4, _, _, _, lk_w_get (by decide), rfl⟩ rfl hl.1 (Nat.le_of_ble_eq_true rfl) d_MO_joins_325 ⟨Nat.zero_le _, Nat.zero_le _⟩) h hA (fun σ325 H locs hk9 h => ?_)
                        rw [hk9] at h
                        refine lv_aload_n hx hb d_MO_joins_328 rfl (lv_at hl 4 rfl) ?_
                        refine lv_iload_n hx hb d_MO_joins_329 rfl (lv_at hl 5 rfl) ?_
                        refine lv_iconst (v := 1) hx hb d_MO_joins_330 (by decide) ?_
                        refine lk_goi (lk_runV (As := [.int (nI t), .int 1]) (C := R_MO) X h (c_MO_finish l D τ ad _ t ht 1) ⟨gc_MO_finish, gm_MO_126, gn_MO, gd_MO_finish, by decide, by decide⟩ gi_MO_finish gs_MO_finish ⟨0, 4, _, _, _, lk_w_get (by decide), rfl⟩ rfl hl.1 (Nat.le_of_ble_eq_true rfl) d_MO_joins_331 ⟨Nat.zero_le _, Nat.zero_le _⟩) h hA (fun r331 σ331 H locs hk9 h => ?_)
                        rw [hk9.2] at h
                        rw [hk9.1]
                        exact lk_reti X h d_MO_joins_334 (by rw [mm_joins, if_neg (show ¬ (M 0 x ≠ 1 ∨ ¬ c < n ∨ n = 1) from fun z => z.elim (fun q => q h1) (fun q => q.elim (fun q => q hcn) h3)), if_neg (show ¬ (M 6 a ≠ -1 ∨ M 6 b ≠ -1) from fun z => z.elim (fun q => q h5) (fun q => q h6)), if_neg (show ¬ (M 3 a ≠ M 7 (5 * p + i) ∨ M 3 b ≠ M 7 (5 * p + i + 1)) from fun z => z.elim (fun q => q h7) (fun q => q h8)), if_neg (show ¬ 4 < na + nb by omega), mm_merge, if_pos h10]; exact ⟨rfl, rfl⟩)
                    · refine lv_aload_n hx hb d_MO_joins_182 rfl (lv_at hl 3 rfl) ?_
                      refine lv_iload hx hb d_MO_joins_183 (lv_at hl 1 rfl) ?_
                      refine lv_iload hx hb d_MO_joins_185 (lv_at hl 0 rfl) ?_
                      refine lk_gov (lk_runV (As := [.int (nI a), .int (nI b)]) (C := R_MO) X h (c_MO_balance l D τ ad M a b na nb ha hb2 hab h5a h5b hna hnb (by omega)) ⟨gc_MO_balance, gm_MO_195, gn_MO, gd_MO_balance, by decide, by decide⟩ gi_MO_balance gs_MO_balance ⟨0, 4, _, _, _, lk_w_get (by decide), rfl⟩ rfl hl.1 (Nat.le_of_ble_eq_true rfl) d_MO_joins_187 ⟨Nat.zero_le _, Nat.zero_le _⟩) h hA (fun σ187 H locs hk9 h => ?_)
                      rw [hk9] at h
                      refine lv_aload_n hx hb d_MO_joins_190 rfl (lv_at hl 3 rfl) ?_
                      refine mo_get X rfl h 8 (by decide) rfl gf_MO_31 rfl d_MO_joins_191 ?_
                      refine lv_iconst (v := nI 5) hx hb d_MO_joins_194 (by decide) ?_
                      refine lv_iload_n hx hb d_MO_joins_195 rfl (lv_at hl 5 rfl) ?_
                      refine lk_imulN hx hb d_MO_joins_196 ?_
                      refine lv_iload_n hx hb d_MO_joins_197 rfl (lv_at hl 2 rfl) ?_
                      refine lk_iaddN hx hb d_MO_joins_198 ?_
                      refine lv_aload_n hx hb d_MO_joins_199 rfl (lv_at hl 3 rfl) ?_
                      refine mo_get X rfl h 4 (by decide) rfl gf_MO_19 rfl d_MO_joins_200 ?_
                      refine lv_iload hx hb d_MO_joins_203 (lv_at hl 1 rfl) ?_
                      refine mo_ald X h 3 24 rfl (by decide) (j := a) (by omega) (by decide) d_MO_joins_205 ?_
                      refine lk_top (lk_shr M a b na nb 7 (5 * a + (na + nb + 1) / 2 - 1)) ((lk_st_f (by decide)).trans lk_st_s) ?_
                      refine mo_ast X h 7 120 rfl (by decide) (j := 5 * p + i) (v := lk_shr M a b na nb 7 (5 * a + (na + nb + 1) / 2 - 1)) (by omega) (by decide) d_MO_joins_206 (fun H locs h => ?_)
                      refine lv_goto (tgt := 328) hx hb d_MO_joins_207 (by decide) ?_
                      refine lv_aload_n hx hb d_MO_joins_328 rfl (lv_at hl 3 rfl) ?_
                      refine lv_iload_n hx hb d_MO_joins_329 rfl (lv_at hl 4 rfl) ?_
                      refine lv_iconst (v := 1) hx hb d_MO_joins_330 (by decide) ?_
                      refine lk_goi (lk_runV (As := [.int (nI t), .int 1]) (C := R_MO) X h (c_MO_finish l D τ ad _ t ht 1) ⟨gc_MO_finish, gm_MO_126, gn_MO, gd_MO_finish, by decide, by decide⟩ gi_MO_finish gs_MO_finish ⟨0, 4, _, _, _, lk_w_get (by decide), rfl⟩ rfl hl.1 (Nat.le_of_ble_eq_true rfl) d_MO_joins_331 ⟨Nat.zero_le _, Nat.zero_le _⟩) h hA (fun r331 σ331 H locs hk9 h => ?_)
                      rw [hk9.2] at h
                      rw [hk9.1]
                      exact lk_reti X h d_MO_joins_334 (by rw [mm_joins, if_neg (show ¬ (M 0 x ≠ 1 ∨ ¬ c < n ∨ n = 1) from fun z => z.elim (fun q => q h1) (fun q => q.elim (fun q => q hcn) h3)), if_neg (show ¬ (M 6 a ≠ -1 ∨ M 6 b ≠ -1) from fun z => z.elim (fun q => q h5) (fun q => q h6)), if_neg (show ¬ (M 3 a ≠ M 7 (5 * p + i) ∨ M 3 b ≠ M 7 (5 * p + i + 1)) from fun z => z.elim (fun q => q h7) (fun q => q h8)), if_pos h9]; exact ⟨rfl, rfl⟩)
                  · refine lv_aload_n hx hb d_MO_joins_156 rfl (lv_at hl 3 rfl) ?_
                    refine lv_iload_n hx hb d_MO_joins_157 rfl (lv_at hl 4 rfl) ?_
                    refine lv_iconst (v := 0) hx hb d_MO_joins_158 (by decide) ?_
                    refine lk_goi (lk_runV (As := [.int (nI t), .int 0]) (C := R_MO) X h (c_MO_finish l D τ ad _ t ht 0) ⟨gc_MO_finish, gm_MO_126, gn_MO, gd_MO_finish, by decide, by decide⟩ gi_MO_finish gs_MO_finish ⟨0, 4, _, _, _, lk_w_get (by decide), rfl⟩ rfl hl.1 (Nat.le_of_ble_eq_true rfl) d_MO_joins_159 ⟨Nat.zero_le _, Nat.zero_le _⟩) h hA (fun r159 σ159 H locs hk9 h => ?_)
                    rw [hk9.2] at h
                    rw [hk9.1]
                    exact lk_reti X h d_MO_joins_162 (by rw [mm_joins, if_neg (show ¬ (M 0 x ≠ 1 ∨ ¬ c < n ∨ n = 1) from fun z => z.elim (fun q => q h1) (fun q => q.elim (fun q => q hcn) h3)), if_neg (show ¬ (M 6 a ≠ -1 ∨ M 6 b ≠ -1) from fun z => z.elim (fun q => q h5) (fun q => q h6)), if_pos (Or.inr h8)]; exact ⟨rfl, rfl⟩)
              · refine lv_iconst (v := 1) hx hb d_MO_joins_112 (by decide) ?_
                exact lk_reti X h d_MO_joins_113 (by rw [mm_joins, if_neg (show ¬ (M 0 x ≠ 1 ∨ ¬ c < n ∨ n = 1) from fun z => z.elim (fun q => q h1) (fun q => q.elim (fun q => q hcn) h3)), if_pos (Or.inr h6)]; exact ⟨rfl, rfl⟩)
          · have ei : c - 1 = i := by rw [← hji]; exact (if_pos (by omega)).symm
            refine lv_iinc (k := 0) (v := nI i) hx hb d_MO_joins_61 hl rfl (by rw [← ei]; exact sb_m1 (by omega)) (by decide) rfl (fun ls hl => ?_)
            have hl : lv_has ls 7 [(3, .int (nI i)), (0, .ref (ad 0)), (1, .int (nI t)), (2, .int (nI p))] := hl
            refine lv_aload_n hx hb d_MO_joins_64 rfl (lv_at hl 1 rfl) ?_
            refine mo_get X rfl h 9 (by decide) rfl gf_MO_34 rfl d_MO_joins_65 ?_
            refine lv_iconst (v := nI 5) hx hb d_MO_joins_68 (by decide) ?_
            refine lv_iload_n hx hb d_MO_joins_69 rfl (lv_at hl 3 rfl) ?_
            refine lk_imulN hx hb d_MO_joins_70 ?_
            refine lv_iload_n hx hb d_MO_joins_71 rfl (lv_at hl 0 rfl) ?_
            refine lk_iaddN hx hb d_MO_joins_72 ?_
            refine mo_ald X h 8 120 rfl (by decide) (j := 5 * p + i) (by omega) (by decide) d_MO_joins_73 ?_
            refine lk_top (nI a) (p1) ?_
            refine lv_istore hx hb d_MO_joins_74 hl (by decide) rfl (fun ls hl => ?_)
            have hl : lv_has ls 7 [(4, .int (nI a)), (3, .int (nI i)), (0, .ref (ad 0)), (1, .int (nI t)), (2, .int (nI p))] := hl
            refine lv_aload_n hx hb d_MO_joins_76 rfl (lv_at hl 2 rfl) ?_
            refine mo_get X rfl h 9 (by decide) rfl gf_MO_34 rfl d_MO_joins_77 ?_
            refine lv_iconst (v := nI 5) hx hb d_MO_joins_80 (by decide) ?_
            refine lv_iload_n hx hb d_MO_joins_81 rfl (lv_at hl 4 rfl) ?_
            refine lk_imulN hx hb d_MO_joins_82 ?_
            refine lv_iload_n hx hb d_MO_joins_83 rfl (lv_at hl 1 rfl) ?_
            refine lk_iaddN hx hb d_MO_joins_84 ?_
            refine lv_iconst (v := nI 1) hx hb d_MO_joins_85 (by decide) ?_
            refine lk_iaddN hx hb d_MO_joins_86 ?_
            refine mo_ald X h 8 120 rfl (by decide) (j := 5 * p + i + 1) (by omega) (by decide) d_MO_joins_87 ?_
            refine lk_top (nI b) (p2) ?_
            refine lv_istore hx hb d_MO_joins_88 hl (by decide) rfl (fun ls hl => ?_)
            have hl : lv_has ls 7 [(5, .int (nI b)), (4, .int (nI a)), (3, .int (nI i)), (0, .ref (ad 0)), (1, .int (nI t)), (2, .int (nI p))] := hl
            refine lv_aload_n hx hb d_MO_joins_90 rfl (lv_at hl 3 rfl) ?_
            refine mo_get X rfl h 7 (by decide) rfl gf_MO_28 rfl d_MO_joins_91 ?_
            refine lv_iload hx hb d_MO_joins_94 (lv_at hl 1 rfl) ?_
            refine mo_ald X h 6 24 rfl (by decide) (j := a) (by omega) (by decide) d_MO_joins_96 ?_
            refine lv_iconst (v := (-1)) hx hb d_MO_joins_97 (by decide) ?_
            refine lv_icmp_ne (tgt := 112) hx hb d_MO_joins_98 (by decide) (fun h5 => ?_) (fun h5 => ?_)
            · refine lv_iconst (v := 1) hx hb d_MO_joins_112 (by decide) ?_
              exact lk_reti X h d_MO_joins_113 (by rw [mm_joins, if_neg (show ¬ (M 0 x ≠ 1 ∨ ¬ c < n ∨ n = 1) from fun z => z.elim (fun q => q h1) (fun q => q.elim (fun q => q hcn) h3)), if_pos (Or.inl h5)]; exact ⟨rfl, rfl⟩)
            · refine lv_aload_n hx hb d_MO_joins_101 rfl (lv_at hl 3 rfl) ?_
              refine mo_get X rfl h 7 (by decide) rfl gf_MO_28 rfl d_MO_joins_102 ?_
              refine lv_iload hx hb d_MO_joins_105 (lv_at hl 0 rfl) ?_
              refine mo_ald X h 6 24 rfl (by decide) (j := b) (by omega) (by decide) d_MO_joins_107 ?_
              refine lv_iconst (v := (-1)) hx hb d_MO_joins_108 (by decide) ?_
              refine lv_icmp_eq (tgt := 114) hx hb d_MO_joins_109 (by decide) (fun h6 => ?_) (fun h6 => ?_)
              · refine lv_aload_n hx hb d_MO_joins_114 rfl (lv_at hl 3 rfl) ?_
                refine mo_get X rfl h 4 (by decide) rfl gf_MO_19 rfl d_MO_joins_115 ?_
                refine lv_iload hx hb d_MO_joins_118 (lv_at hl 1 rfl) ?_
                refine mo_ald X h 3 24 rfl (by decide) (j := a) (by omega) (by decide) d_MO_joins_120 ?_
                refine lv_aload_n hx hb d_MO_joins_121 rfl (lv_at hl 3 rfl) ?_
                refine mo_get X rfl h 8 (by decide) rfl gf_MO_31 rfl d_MO_joins_122 ?_
                refine lv_iconst (v := nI 5) hx hb d_MO_joins_125 (by decide) ?_
                refine lv_iload_n hx hb d_MO_joins_126 rfl (lv_at hl 5 rfl) ?_
                refine lk_imulN hx hb d_MO_joins_127 ?_
                refine lv_iload_n hx hb d_MO_joins_128 rfl (lv_at hl 2 rfl) ?_
                refine lk_iaddN hx hb d_MO_joins_129 ?_
                refine mo_ald X h 7 120 rfl (by decide) (j := 5 * p + i) (by omega) (by decide) d_MO_joins_130 ?_
                refine lv_icmp_ne (tgt := 156) hx hb d_MO_joins_131 (by decide) (fun h7 => ?_) (fun h7 => ?_)
                · refine lv_aload_n hx hb d_MO_joins_156 rfl (lv_at hl 3 rfl) ?_
                  refine lv_iload_n hx hb d_MO_joins_157 rfl (lv_at hl 4 rfl) ?_
                  refine lv_iconst (v := 0) hx hb d_MO_joins_158 (by decide) ?_
                  refine lk_goi (lk_runV (As := [.int (nI t), .int 0]) (C := R_MO) X h (c_MO_finish l D τ ad _ t ht 0) ⟨gc_MO_finish, gm_MO_126, gn_MO, gd_MO_finish, by decide, by decide⟩ gi_MO_finish gs_MO_finish ⟨0, 4, _, _, _, lk_w_get (by decide), rfl⟩ rfl hl.1 (Nat.le_of_ble_eq_true rfl) d_MO_joins_159 ⟨Nat.zero_le _, Nat.zero_le _⟩) h hA (fun r159 σ159 H locs hk9 h => ?_)
                  rw [hk9.2] at h
                  rw [hk9.1]
                  exact lk_reti X h d_MO_joins_162 (by rw [mm_joins, if_neg (show ¬ (M 0 x ≠ 1 ∨ ¬ c < n ∨ n = 1) from fun z => z.elim (fun q => q h1) (fun q => q.elim (fun q => q hcn) h3)), if_neg (show ¬ (M 6 a ≠ -1 ∨ M 6 b ≠ -1) from fun z => z.elim (fun q => q h5) (fun q => q h6)), if_pos (Or.inl h7)]; exact ⟨rfl, rfl⟩)
                · refine lv_aload_n hx hb d_MO_joins_134 rfl (lv_at hl 3 rfl) ?_
                  refine mo_get X rfl h 4 (by decide) rfl gf_MO_19 rfl d_MO_joins_135 ?_
                  refine lv_iload hx hb d_MO_joins_138 (lv_at hl 0 rfl) ?_
                  refine mo_ald X h 3 24 rfl (by decide) (j := b) (by omega) (by decide) d_MO_joins_140 ?_
                  refine lv_aload_n hx hb d_MO_joins_141 rfl (lv_at hl 3 rfl) ?_
                  refine mo_get X rfl h 8 (by decide) rfl gf_MO_31 rfl d_MO_joins_142 ?_
                  refine lv_iconst (v := nI 5) hx hb d_MO_joins_145 (by decide) ?_
                  refine lv_iload_n hx hb d_MO_joins_146 rfl (lv_at hl 5 rfl) ?_
                  refine lk_imulN hx hb d_MO_joins_147 ?_
                  refine lv_iload_n hx hb d_MO_joins_148 rfl (lv_at hl 2 rfl) ?_
                  refine lk_iaddN hx hb d_MO_joins_149 ?_
                  refine lv_iconst (v := nI 1) hx hb d_MO_joins_150 (by decide) ?_
                  refine lk_iaddN hx hb d_MO_joins_151 ?_
                  refine mo_ald X h 7 120 rfl (by decide) (j := 5 * p + i + 1) (by omega) (by decide) d_MO_joins_152 ?_
                  refine lv_icmp_eq (tgt := 163) hx hb d_MO_joins_153 (by decide) (fun h8 => ?_) (fun h8 => ?_)
                  · refine lv_aload_n hx hb d_MO_joins_163 rfl (lv_at hl 3 rfl) ?_
                    refine mo_get X rfl h 6 (by decide) rfl gf_MO_25 rfl d_MO_joins_164 ?_
                    refine lv_iload hx hb d_MO_joins_167 (lv_at hl 1 rfl) ?_
                    refine mo_ald X h 5 24 rfl (by decide) (j := a) (by omega) (by decide) d_MO_joins_169 ?_
                    refine lk_top (nI na) (h5a) ?_
                    refine lv_aload_n hx hb d_MO_joins_170 rfl (lv_at hl 3 rfl) ?_
                    refine mo_get X rfl h 6 (by decide) rfl gf_MO_25 rfl d_MO_joins_171 ?_
                    refine lv_iload hx hb d_MO_joins_174 (lv_at hl 0 rfl) ?_
                    refine mo_ald X h 5 24 rfl (by decide) (j := b) (by omega) (by decide) d_MO_joins_176 ?_
                    refine lk_top (nI nb) (h5b) ?_
                    refine lk_iaddN hx hb d_MO_joins_177 ?_
                    refine lv_iconst (v := nI 4) hx hb d_MO_joins_178 (by decide) ?_
                    refine lk_cN_le (tgt := 210) hx hb (by omega) (by omega) d_MO_joins_179 (by decide) (fun h9 => ?_) (fun h9 => ?_)
                    · refine lv_iconst (v := nI 5) hx hb d_MO_joins_210 (by decide) ?_
                      refine lv_iload hx hb d_MO_joins_211 (lv_at hl 0 rfl) ?_
                      refine lk_imulN hx hb d_MO_joins_213 ?_
                      refine lv_istore hx hb d_MO_joins_214 hl (by decide) rfl (fun ls hl => ?_)
                      have hl : lv_has ls 7 [(6, .int (nI (5 * b))), (5, .int (nI b)), (4, .int (nI a)), (3, .int (nI i)), (0, .ref (ad 0)), (1, .int (nI t)), (2, .int (nI p))] := hl
                      refine w_MO_joins X hA (by decide) ha hb2 hab h5a h5b h9 nb 0 (by omega) _ _ ls h hl (fun H locs ls h hl => ?_)
                      refine lv_aload_n hx hb d_MO_joins_259 rfl (lv_at hl 4 rfl) ?_
                      refine mo_get X rfl h 4 (by decide) rfl gf_MO_19 rfl d_MO_joins_260 ?_
                      refine lv_iload hx hb d_MO_joins_263 (lv_at hl 2 rfl) ?_
                      refine lv_aload_n hx hb d_MO_joins_265 rfl (lv_at hl 4 rfl) ?_
                      refine mo_get X rfl h 4 (by decide) rfl gf_MO_19 rfl d_MO_joins_266 ?_
                      refine lv_iload hx hb d_MO_joins_269 (lv_at hl 1 rfl) ?_
                      refine mo_ald X h 3 24 rfl (by decide) (j := b) (by omega) (by decide) d_MO_joins_271 ?_
                      refine lk_top (M 3 b) (lk_apL_f M a b na (by decide) (by decide) (by decide) nb) ?_
                      refine mo_ast X h 3 24 rfl (by decide) (j := a) (v := M 3 b) (by omega) (by decide) d_MO_joins_272 (fun H locs h => ?_)
                      refine lv_aload_n hx hb d_MO_joins_273 rfl (lv_at hl 4 rfl) ?_
                      refine mo_get X rfl h 5 (by decide) rfl gf_MO_22 rfl d_MO_joins_274 ?_
                      refine lv_iload hx hb d_MO_joins_277 (lv_at hl 2 rfl) ?_
                      refine lv_aload_n hx hb d_MO_joins_279 rfl (lv_at hl 4 rfl) ?_
                      refine mo_get X rfl h 5 (by decide) rfl gf_MO_22 rfl d_MO_joins_280 ?_
                      refine lv_iload hx hb d_MO_joins_283 (lv_at hl 1 rfl) ?_
                      refine mo_ald X h 4 24 rfl (by decide) (j := b) (by omega) (by decide) d_MO_joins_285 ?_
                      refine lk_top (M 4 b) ((lk_st_f (by decide)).trans (lk_apL_f M a b na (by decide) (by decide) (by decide) nb)) ?_
                      refine mo_ast X h 4 24 rfl (by decide) (j := a) (v := M 4 b) (by omega) (by decide) d_MO_joins_286 (fun H locs h => ?_)
                      refine lv_aload_n hx hb d_MO_joins_287 rfl (lv_at hl 4 rfl) ?_
                      refine lv_iload hx hb d_MO_joins_288 (lv_at hl 1 rfl) ?_
                      refine lv_iload_n hx hb d_MO_joins_290 rfl (lv_at hl 5 rfl) ?_
                      refine lk_gov (lk_runV (As := [.int (nI b), .int (nI t)]) (C := R_MO) X h (c_MO_die l D τ ad (lk_st (lk_st (lk_apL M a b na nb) 3 a (M 3 b)) 4 a (M 4 b)) b t nq hb2 ht ((lk_st_f (by decide)).trans ((lk_st_f (by decide)).trans ((lk_apL_f M a b na (by decide) (by decide) (by decide) nb).trans hq0))) hnq) ⟨gc_MO_die, gm_MO_198, gn_MO, gd_MO_die, by decide, by decide⟩ gi_MO_die gs_MO_die ⟨0, 4, _, _, _, lk_w_get (by decide), rfl⟩ rfl hl.1 (Nat.le_of_ble_eq_true rfl) d_MO_joins_291 ⟨Nat.zero_le _, Nat.zero_le _⟩) h hA (fun σ291 H locs hk9 h => ?_)
                      rw [hk9] at h
                      have hc5 : (mm_die (lk_st (lk_st (lk_apL M a b na nb) 3 a (M 3 b)) 4 a (M 4 b)) b t nq) 5 p = nI n := (mm_die_f (by decide) (by decide) (by decide) (by decide)).trans ((lk_st_f (by decide)).trans ((lk_st_f (by decide)).trans ((lk_apL_5 M a b na (Ne.symm hap) nb).trans hc)))
                      refine lv_aload_n hx hb d_MO_joins_294 rfl (lv_at hl 4 rfl) ?_
                      refine lv_iload_n hx hb d_MO_joins_295 rfl (lv_at hl 6 rfl) ?_
                      refine lv_iload_n hx hb d_MO_joins_296 rfl (lv_at hl 3 rfl) ?_
                      refine lk_gov (lk_runV (As := [.int (nI p), .int (nI i)]) (C := R_MO) X h (c_MO_takeOut l D τ ad _ p i n hp hc5 (by omega) (by omega)) ⟨gc_MO_takeOut, gm_MO_186, gn_MO, gd_MO_takeOut, by decide, by decide⟩ gi_MO_takeOut gs_MO_takeOut ⟨0, 4, _, _, _, lk_w_get (by decide), rfl⟩ rfl hl.1 (Nat.le_of_ble_eq_true rfl) d_MO_joins_297 ⟨Nat.zero_le _, Nat.zero_le _⟩) h hA (fun σ297 H locs hk9 h => ?_)
                      rw [hk9] at h
                      refine lv_aload_n hx hb d_MO_joins_300 rfl (lv_at hl 4 rfl) ?_
                      refine mo_get X rfl h 9 (by decide) rfl gf_MO_34 rfl d_MO_joins_301 ?_
                      refine lv_iconst (v := nI 5) hx hb d_MO_joins_304 (by decide) ?_
                      refine lv_iload_n hx hb d_MO_joins_305 rfl (lv_at hl 6 rfl) ?_
                      refine lk_imulN hx hb d_MO_joins_306 ?_
                      refine lv_iload_n hx hb d_MO_joins_307 rfl (lv_at hl 3 rfl) ?_
                      refine lk_iaddN hx hb d_MO_joins_308 ?_
                      refine lv_iload hx hb d_MO_joins_309 (lv_at hl 2 rfl) ?_
                      refine mo_ast X h 8 120 rfl (by decide) (j := 5 * p + i) (v := nI a) (by omega) (by decide) d_MO_joins_311 (fun H locs h => ?_)
                      refine lv_aload_n hx hb d_MO_joins_312 rfl (lv_at hl 4 rfl) ?_
                      refine mo_get X rfl h 6 (by decide) rfl gf_MO_25 rfl d_MO_joins_313 ?_
                      refine lv_iload_n hx hb d_MO_joins_316 rfl (lv_at hl 6 rfl) ?_
                      refine mo_ald X h 5 24 rfl (by decide) (j := p) (by omega) (by decide) d_MO_joins_317 ?_
                      refine lk_top (nI (n - 1)) ((lk_st_f (by decide)).trans (lk_del_5.trans (if_pos rfl))) ?_
                      refine lv_iconst (v := nI 1) hx hb d_MO_joins_318 (by decide) ?_
                      refine lk_cN_ne (tgt := 328) hx hb (by omega) (by omega) d_MO_joins_319 (by decide) (fun h10 => ?_) (fun h10 => ?_)
                      · refine lv_aload_n hx hb d_MO_joins_328 rfl (lv_at hl 4 rfl) ?_
                        refine lv_iload_n hx hb d_MO_joins_329 rfl (lv_at hl 5 rfl) ?_
                        refine lv_iconst (v := 1) hx hb d_MO_joins_330 (by decide) ?_
                        refine lk_goi (lk_runV (As := [.int (nI t), .int 1]) (C := R_MO) X h (c_MO_finish l D τ ad _ t ht 1) ⟨gc_MO_finish, gm_MO_126, gn_MO, gd_MO_finish, by decide, by decide⟩ gi_MO_finish gs_MO_finish ⟨0, 4, _, _, _, lk_w_get (by decide), rfl⟩ rfl hl.1 (Nat.le_of_ble_eq_true rfl) d_MO_joins_331 ⟨Nat.zero_le _, Nat.zero_le _⟩) h hA (fun r331 σ331 H locs hk9 h => ?_)
                        rw [hk9.2] at h
                        rw [hk9.1]
                        exact lk_reti X h d_MO_joins_334 (by rw [mm_joins, if_neg (show ¬ (M 0 x ≠ 1 ∨ ¬ c < n ∨ n = 1) from fun z => z.elim (fun q => q h1) (fun q => q.elim (fun q => q hcn) h3)), if_neg (show ¬ (M 6 a ≠ -1 ∨ M 6 b ≠ -1) from fun z => z.elim (fun q => q h5) (fun q => q h6)), if_neg (show ¬ (M 3 a ≠ M 7 (5 * p + i) ∨ M 3 b ≠ M 7 (5 * p + i + 1)) from fun z => z.elim (fun q => q h7) (fun q => q h8)), if_neg (show ¬ 4 < na + nb by omega), mm_merge, if_neg h10]; exact ⟨rfl, rfl⟩)
                      · have hq9 : (lk_cmp (M 10) (nI b) nq).2 ≤ 12 := Nat.le_trans (lk_cmp_le _ _ _) hnq
                        have e10 : (lk_st (lk_st (lk_apL M a b na nb) 3 a (M 3 b)) 4 a (M 4 b)) 10 = M 10 := by funext z; exact (lk_st_f (by decide)).trans ((lk_st_f (by decide)).trans (lk_apL_f M a b na (by decide) (by decide) (by decide) nb))
                        refine lv_aload_n hx hb d_MO_joins_322 rfl (lv_at hl 4 rfl) ?_
                        refine lv_iload_n hx hb d_MO_joins_323 rfl (lv_at hl 5 rfl) ?_
                        refine lv_iload_n hx hb d_MO_joins_324 rfl (lv_at hl 6 rfl) ?_
                        refine lk_gov (lk_runV (As := [.int (nI t), .int (nI p)]) (C := R_MO) X h (c_MO_shrinks l D τ ad _ t p rt (lk_cmp (M 10) (nI b) nq).2 ht hp hrt ((lk_st_f (by decide)).trans ((lk_del_f (by decide) (by decide) (by decide)).trans (mm_die_r.trans ((lk_st_f (by decide)).trans ((lk_st_f (by decide)).trans ((lk_apL_f M a b na (by decide) (by decide) (by decide) nb).trans hr0)))))) hq9 ((lk_st_f (by decide)).trans ((lk_del_f (by decide) (by decide) (by decide)).trans (mm_die_q.trans (by rw [e10]))))) ⟨gc_MO_shrinks, gm_MO_201, gn_MO, gd_MO_shrinks, by decide, by decide⟩ gi_MO_shrinks gs_MO_shrinks ⟨0, 4, _, _, _, lk_w_get (by decide), rfl⟩ rfl hl.1 (Nat.le_of_ble_eq_true rfl) d_MO_joins_325 ⟨Nat.zero_le _, Nat.zero_le _⟩) h hA (fun σ325 H locs hk9 h => ?_)
                        rw [hk9] at h
                        refine lv_aload_n hx hb d_MO_joins_328 rfl (lv_at hl 4 rfl) ?_
                        refine lv_iload_n hx hb d_MO_joins_329 rfl (lv_at hl 5 rfl) ?_
                        refine lv_iconst (v := 1) hx hb d_MO_joins_330 (by decide) ?_
                        refine lk_goi (lk_runV (As := [.int (nI t), .int 1]) (C := R_MO) X h (c_MO_finish l D τ ad _ t ht 1) ⟨gc_MO_finish, gm_MO_126, gn_MO, gd_MO_finish, by decide, by decide⟩ gi_MO_finish gs_MO_finish ⟨0, 4, _, _, _, lk_w_get (by decide), rfl⟩ rfl hl.1 (Nat.le_of_ble_eq_true rfl) d_MO_joins_331 ⟨Nat.zero_le _, Nat.zero_le _⟩) h hA (fun r331 σ331 H locs hk9 h => ?_)
                        rw [hk9.2] at h
                        rw [hk9.1]
                        exact lk_reti X h d_MO_joins_334 (by rw [mm_joins, if_neg (show ¬ (M 0 x ≠ 1 ∨ ¬ c < n ∨ n = 1) from fun z => z.elim (fun q => q h1) (fun q => q.elim (fun q => q hcn) h3)), if_neg (show ¬ (M 6 a ≠ -1 ∨ M 6 b ≠ -1) from fun z => z.elim (fun q => q h5) (fun q => q h6)), if_neg (show ¬ (M 3 a ≠ M 7 (5 * p + i) ∨ M 3 b ≠ M 7 (5 * p + i + 1)) from fun z => z.elim (fun q => q h7) (fun q => q h8)), if_neg (show ¬ 4 < na + nb by omega), mm_merge, if_pos h10]; exact ⟨rfl, rfl⟩)
                    · refine lv_aload_n hx hb d_MO_joins_182 rfl (lv_at hl 3 rfl) ?_
                      refine lv_iload hx hb d_MO_joins_183 (lv_at hl 1 rfl) ?_
                      refine lv_iload hx hb d_MO_joins_185 (lv_at hl 0 rfl) ?_
                      refine lk_gov (lk_runV (As := [.int (nI a), .int (nI b)]) (C := R_MO) X h (c_MO_balance l D τ ad M a b na nb ha hb2 hab h5a h5b hna hnb (by omega)) ⟨gc_MO_balance, gm_MO_195, gn_MO, gd_MO_balance, by decide, by decide⟩ gi_MO_balance gs_MO_balance ⟨0, 4, _, _, _, lk_w_get (by decide), rfl⟩ rfl hl.1 (Nat.le_of_ble_eq_true rfl) d_MO_joins_187 ⟨Nat.zero_le _, Nat.zero_le _⟩) h hA (fun σ187 H locs hk9 h => ?_)
                      rw [hk9] at h
                      refine lv_aload_n hx hb d_MO_joins_190 rfl (lv_at hl 3 rfl) ?_
                      refine mo_get X rfl h 8 (by decide) rfl gf_MO_31 rfl d_MO_joins_191 ?_
                      refine lv_iconst (v := nI 5) hx hb d_MO_joins_194 (by decide) ?_
                      refine lv_iload_n hx hb d_MO_joins_195 rfl (lv_at hl 5 rfl) ?_
                      refine lk_imulN hx hb d_MO_joins_196 ?_
                      refine lv_iload_n hx hb d_MO_joins_197 rfl (lv_at hl 2 rfl) ?_
                      refine lk_iaddN hx hb d_MO_joins_198 ?_
                      refine lv_aload_n hx hb d_MO_joins_199 rfl (lv_at hl 3 rfl) ?_
                      refine mo_get X rfl h 4 (by decide) rfl gf_MO_19 rfl d_MO_joins_200 ?_
                      refine lv_iload hx hb d_MO_joins_203 (lv_at hl 1 rfl) ?_
                      refine mo_ald X h 3 24 rfl (by decide) (j := a) (by omega) (by decide) d_MO_joins_205 ?_
                      refine lk_top (lk_shr M a b na nb 7 (5 * a + (na + nb + 1) / 2 - 1)) ((lk_st_f (by decide)).trans lk_st_s) ?_
                      refine mo_ast X h 7 120 rfl (by decide) (j := 5 * p + i) (v := lk_shr M a b na nb 7 (5 * a + (na + nb + 1) / 2 - 1)) (by omega) (by decide) d_MO_joins_206 (fun H locs h => ?_)
                      refine lv_goto (tgt := 328) hx hb d_MO_joins_207 (by decide) ?_
                      refine lv_aload_n hx hb d_MO_joins_328 rfl (lv_at hl 3 rfl) ?_
                      refine lv_iload_n hx hb d_MO_joins_329 rfl (lv_at hl 4 rfl) ?_
                      refine lv_iconst (v := 1) hx hb d_MO_joins_330 (by decide) ?_
                      refine lk_goi (lk_runV (As := [.int (nI t), .int 1]) (C := R_MO) X h (c_MO_finish l D τ ad _ t ht 1) ⟨gc_MO_finish, gm_MO_126, gn_MO, gd_MO_finish, by decide, by decide⟩ gi_MO_finish gs_MO_finish ⟨0, 4, _, _, _, lk_w_get (by decide), rfl⟩ rfl hl.1 (Nat.le_of_ble_eq_true rfl) d_MO_joins_331 ⟨Nat.zero_le _, Nat.zero_le _⟩) h hA (fun r331 σ331 H locs hk9 h => ?_)
                      rw [hk9.2] at h
                      rw [hk9.1]
                      exact lk_reti X h d_MO_joins_334 (by rw [mm_joins, if_neg (show ¬ (M 0 x ≠ 1 ∨ ¬ c < n ∨ n = 1) from fun z => z.elim (fun q => q h1) (fun q => q.elim (fun q => q hcn) h3)), if_neg (show ¬ (M 6 a ≠ -1 ∨ M 6 b ≠ -1) from fun z => z.elim (fun q => q h5) (fun q => q h6)), if_neg (show ¬ (M 3 a ≠ M 7 (5 * p + i) ∨ M 3 b ≠ M 7 (5 * p + i + 1)) from fun z => z.elim (fun q => q h7) (fun q => q h8)), if_pos h9]; exact ⟨rfl, rfl⟩)
                  · refine lv_aload_n hx hb d_MO_joins_156 rfl (lv_at hl 3 rfl) ?_
                    refine lv_iload_n hx hb d_MO_joins_157 rfl (lv_at hl 4 rfl) ?_
                    refine lv_iconst (v := 0) hx hb d_MO_joins_158 (by decide) ?_
                    refine lk_goi (lk_runV (As := [.int (nI t), .int 0]) (C := R_MO) X h (c_MO_finish l D τ ad _ t ht 0) ⟨gc_MO_finish, gm_MO_126, gn_MO, gd_MO_finish, by decide, by decide⟩ gi_MO_finish gs_MO_finish ⟨0, 4, _, _, _, lk_w_get (by decide), rfl⟩ rfl hl.1 (Nat.le_of_ble_eq_true rfl) d_MO_joins_159 ⟨Nat.zero_le _, Nat.zero_le _⟩) h hA (fun r159 σ159 H locs hk9 h => ?_)
                    rw [hk9.2] at h
                    rw [hk9.1]
                    exact lk_reti X h d_MO_joins_162 (by rw [mm_joins, if_neg (show ¬ (M 0 x ≠ 1 ∨ ¬ c < n ∨ n = 1) from fun z => z.elim (fun q => q h1) (fun q => q.elim (fun q => q hcn) h3)), if_neg (show ¬ (M 6 a ≠ -1 ∨ M 6 b ≠ -1) from fun z => z.elim (fun q => q h5) (fun q => q h6)), if_pos (Or.inr h8)]; exact ⟨rfl, rfl⟩)
              · refine lv_iconst (v := 1) hx hb d_MO_joins_112 (by decide) ?_
                exact lk_reti X h d_MO_joins_113 (by rw [mm_joins, if_neg (show ¬ (M 0 x ≠ 1 ∨ ¬ c < n ∨ n = 1) from fun z => z.elim (fun q => q h1) (fun q => q.elim (fun q => q hcn) h3)), if_pos (Or.inr h6)]; exact ⟨rfl, rfl⟩)
        · refine lv_aload_n hx hb d_MO_joins_42 rfl (lv_at hl 1 rfl) ?_
          refine lv_iload_n hx hb d_MO_joins_43 rfl (lv_at hl 2 rfl) ?_
          refine lv_iconst (v := 0) hx hb d_MO_joins_44 (by decide) ?_
          refine lk_goi (lk_runV (As := [.int (nI t), .int 0]) (C := R_MO) X h (c_MO_finish l D τ ad _ t ht 0) ⟨gc_MO_finish, gm_MO_126, gn_MO, gd_MO_finish, by decide, by decide⟩ gi_MO_finish gs_MO_finish ⟨0, 4, _, _, _, lk_w_get (by decide), rfl⟩ rfl hl.1 (Nat.le_of_ble_eq_true rfl) d_MO_joins_45 ⟨Nat.zero_le _, Nat.zero_le _⟩) h hA (fun r45 σ45 H locs hk9 h => ?_)
          rw [hk9.2] at h
          rw [hk9.1]
          exact lk_reti X h d_MO_joins_48 (by rw [mm_joins, if_pos (Or.inr (Or.inr h3))]; exact ⟨rfl, rfl⟩)
  · rw [show lk_nn c n = -1 from if_neg hcn]
    refine lv_istore_n hx hb d_MO_joins_11 rfl hl (by decide) rfl (fun ls hl => ?_)
    have hl : lv_has ls 7 [(3, .int (-1)), (0, .ref (ad 0)), (1, .int (nI t)), (2, .int (nI p))] := hl
    refine lv_aload_n hx hb d_MO_joins_12 rfl (lv_at hl 1 rfl) ?_
    refine mo_get X rfl h 1 (by decide) rfl gf_MO_7 rfl d_MO_joins_13 ?_
    refine lv_aload_n hx hb d_MO_joins_16 rfl (lv_at hl 1 rfl) ?_
    refine mo_get X rfl h 21 (by decide) rfl gf_MO_65 rfl d_MO_joins_17 ?_
    refine lv_iload_n hx hb d_MO_joins_20 rfl (lv_at hl 2 rfl) ?_
    refine mo_ald X h 18 4 rfl (by decide) (j := t) (by omega) (by decide) d_MO_joins_21 ?_
    refine lk_top (nI x) (habt) ?_
    refine mo_ald X h 0 24 rfl (by decide) (j := x) (by omega) (by decide) d_MO_joins_22 ?_
    refine lv_iconst (v := 1) hx hb d_MO_joins_23 (by decide) ?_
    refine lv_icmp_ne (tgt := 42) hx hb d_MO_joins_24 (by decide) (fun h1 => ?_) (fun h1 => ?_)
    · refine lv_aload_n hx hb d_MO_joins_42 rfl (lv_at hl 1 rfl) ?_
      refine lv_iload_n hx hb d_MO_joins_43 rfl (lv_at hl 2 rfl) ?_
      refine lv_iconst (v := 0) hx hb d_MO_joins_44 (by decide) ?_
      refine lk_goi (lk_runV (As := [.int (nI t), .int 0]) (C := R_MO) X h (c_MO_finish l D τ ad _ t ht 0) ⟨gc_MO_finish, gm_MO_126, gn_MO, gd_MO_finish, by decide, by decide⟩ gi_MO_finish gs_MO_finish ⟨0, 4, _, _, _, lk_w_get (by decide), rfl⟩ rfl hl.1 (Nat.le_of_ble_eq_true rfl) d_MO_joins_45 ⟨Nat.zero_le _, Nat.zero_le _⟩) h hA (fun r45 σ45 H locs hk9 h => ?_)
      rw [hk9.2] at h
      rw [hk9.1]
      exact lk_reti X h d_MO_joins_48 (by rw [mm_joins, if_pos (Or.inl h1)]; exact ⟨rfl, rfl⟩)
    · refine lv_iload_n hx hb d_MO_joins_27 rfl (lv_at hl 0 rfl) ?_
      refine lv_iconst (v := (-1)) hx hb d_MO_joins_28 (by decide) ?_
      refine lv_icmp_eq (tgt := 42) hx hb d_MO_joins_29 (by decide) (fun _ => ?_) (fun z => absurd z (by decide))
      refine lv_aload_n hx hb d_MO_joins_42 rfl (lv_at hl 1 rfl) ?_
      refine lv_iload_n hx hb d_MO_joins_43 rfl (lv_at hl 2 rfl) ?_
      refine lv_iconst (v := 0) hx hb d_MO_joins_44 (by decide) ?_
      refine lk_goi (lk_runV (As := [.int (nI t), .int 0]) (C := R_MO) X h (c_MO_finish l D τ ad _ t ht 0) ⟨gc_MO_finish, gm_MO_126, gn_MO, gd_MO_finish, by decide, by decide⟩ gi_MO_finish gs_MO_finish ⟨0, 4, _, _, _, lk_w_get (by decide), rfl⟩ rfl hl.1 (Nat.le_of_ble_eq_true rfl) d_MO_joins_45 ⟨Nat.zero_le _, Nat.zero_le _⟩) h hA (fun r45 σ45 H locs hk9 h => ?_)
      rw [hk9.2] at h
      rw [hk9.1]
      exact lk_reti X h d_MO_joins_48 (by rw [mm_joins, if_pos (Or.inr (Or.inl hcn))]; exact ⟨rfl, rfl⟩)
