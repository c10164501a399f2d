section
variable {pg : Program} {l : Launch} {en : Env} {R : Room} {s : State} {m : MethodId} {args : Array Value} {below : List Frame} {meth : Method} {cd : Code} {H : Heap} {locs : List Loc} {cells slots : Nat} {Q : State → Prop} {D : va_G} {τ : Nat → ClassId} {ad : Nat → Nat} {A : Nat → Prop} {H0 : Heap} {M : lk_M}
theorem w_SP_has (X : lk_X pg s m args meth cd y_SP_has b_SP_has 3 (some (.boolean)) D τ) (h : lk_H D lk_cl A s.heap (lk_w 88 ad (lk_ce τ ad M)) H locs) {post : Int32 → lk_M → Prop} {n : Nat} {x : Int32} (hc : M 24 1 = nI n) (hn : n ≤ 12) (h1p : lk_has (M 10) x n → post 1 M) (h0p : ¬ lk_has (M 10) x n → post 0 M) : ∀ (r i : Nat), i + r = n → ¬ lk_has (M 10) x i → ∀ ls : Array Slot, lv_has ls 3 [(2, .int (nI i)), (0, .ref (ad 3)), (1, .int x)] → W pg l en R s m args below meth cd H locs 0 0 (MQ below (va_Qi post (lk_Bh D τ 88 ad (lk_ce τ ad)) A) args s 0 0 A) (F0 m 2 ls []) := by
  obtain ⟨hx, hb, -⟩ := id X
  intro r
  induction r with
  | zero =>
    intro i hi hh ls hl
    have hi : i = n := by omega
    subst hi
    refine lv_iload_n hx hb d_SP_has_2 rfl (lv_at hl 0 rfl) ?_
    refine lv_aload_n hx hb d_SP_has_3 rfl (lv_at hl 1 rfl) ?_
    refine ct_get X h (q0 := 3) (by omega) rfl rfl gl_SP 1 (by decide) rfl gf_SP_15 rfl d_SP_has_4 ?_
    refine lk_top (nI i) (hc) ?_
    refine lk_cN_ge (tgt := 28) hx hb (by omega) (by omega) d_SP_has_7 (by decide) (fun h1 => ?_) (fun h1 => ?_)
    · refine lv_iconst (v := 0) hx hb d_SP_has_28 (by decide) ?_
      exact lk_retz X h d_SP_has_29 (by decide) (h0p hh)
    · omega
  | succ r ih =>
    intro i hi hh ls hl
    refine lv_iload_n hx hb d_SP_has_2 rfl (lv_at hl 0 rfl) ?_
    refine lv_aload_n hx hb d_SP_has_3 rfl (lv_at hl 1 rfl) ?_
    refine ct_get X h (q0 := 3) (by omega) rfl rfl gl_SP 1 (by decide) rfl gf_SP_15 rfl d_SP_has_4 ?_
    refine lk_top (nI n) (hc) ?_
    refine lk_cN_ge (tgt := 28) hx hb (by omega) (by omega) d_SP_has_7 (by decide) (fun h1 => ?_) (fun h1 => ?_)
    · omega
    · refine lv_aload_n hx hb d_SP_has_10 rfl (lv_at hl 1 rfl) ?_
      refine ct_get X h (q0 := 3) (by omega) rfl rfl gl_SP 0 (by decide) rfl gf_SP_9 rfl d_SP_has_11 ?_
      refine lv_iload_n hx hb d_SP_has_14 rfl (lv_at hl 0 rfl) ?_
      refine sp_ald X h (j := i) (by omega) d_SP_has_15 ?_
      refine lv_iload_n hx hb d_SP_has_16 rfl (lv_at hl 2 rfl) ?_
      refine lv_icmp_ne (tgt := 22) hx hb d_SP_has_17 (by decide) (fun h2 => ?_) (fun h2 => ?_)
      · refine lv_iinc (k := 0) (v := nI (i + 1)) hx hb d_SP_has_22 hl rfl (nI_1 _) (by decide) rfl (fun ls hl => ?_)
        have hl : lv_has ls 3 [(2, .int (nI (i + 1))), (0, .ref (ad 3)), (1, .int x)] := hl
        refine lv_goto (tgt := 2) hx hb d_SP_has_25 (by decide) ?_
        exact ih (i + 1) (by omega) (fun z => (lk_has_s.mp z).elim hh h2) ls hl
      · refine lv_iconst (v := 1) hx hb d_SP_has_20 (by decide) ?_
        exact lk_retz X h d_SP_has_21 (by decide) (h1p ⟨i, by omega, h2⟩)
end
set_option maxRecDepth 20000 in
theorem c_SP_has (l : Launch) (D : va_G) (τ : Nat → ClassId) (ad : Nat → Nat) (M : lk_M) (n : Nat) (hc : M 24 1 = nI n) (hn : n ≤ 12) (x : Int32) : lk_Ci l D τ 88 ad (lk_ce τ ad) y_SP_has b_SP_has 3 (.boolean) 0 0 [.ref (ad 3), .int x] M (fun r M1 => (r = 1 ∧ lk_has (M 10) x n ∨ r = 0 ∧ ¬ lk_has (M 10) x n) ∧ M1 = M) := by
  refine lk_openi (by decide +kernel) (Nat.le_of_ble_eq_true rfl) ?_
  intro pg en s m args below meth cd ls A X h hA hl
  obtain ⟨hx, hb, -⟩ := id X
  have hl : lv_has ls 3 [(0, .ref (ad 3)), (1, .int x)] := hl
  refine lv_iconst (v := nI 0) hx hb d_SP_has_0 (by decide) ?_
  refine lv_istore_n hx hb d_SP_has_1 rfl hl (by decide) rfl (fun ls hl => ?_)
  have hl : lv_has ls 3 [(2, .int (nI 0)), (0, .ref (ad 3)), (1, .int x)] := hl
  exact w_SP_has X h hc hn (fun z => ⟨Or.inl ⟨rfl, z⟩, rfl⟩) (fun z => ⟨Or.inr ⟨rfl, z⟩, rfl⟩) n 0 (by omega) (fun ⟨j, hj, _⟩ => by omega) ls hl
set_option maxRecDepth 20000 in
theorem c_SP_add (l : Launch) (D : va_G) (τ : Nat → ClassId) (ad : Nat → Nat) (M : lk_M) (n : Nat) (hc : M 24 1 = nI n) (hn : n ≤ 12) (x : Int32) : lk_Cv l D τ 88 ad (lk_ce τ ad) y_SP_add b_SP_add 2 1 22 [.ref (ad 3), .int x] M (fun M1 => M1 = lk_cq M x n) := by
  refine lk_openv (by decide +kernel) (Nat.le_of_ble_eq_true rfl) ?_
  intro pg en s m args below meth cd ls A X h hA hl
  obtain ⟨hx, hb, -⟩ := id X
  have hl : lv_has ls 2 [(0, .ref (ad 3)), (1, .int x)] := hl
  refine lv_aload_n hx hb d_SP_add_0 rfl (lv_at hl 0 rfl) ?_
  refine ct_get X h (q0 := 3) (by omega) rfl rfl gl_SP 1 (by decide) rfl gf_SP_15 rfl d_SP_add_1 ?_
  refine lk_top (nI n) (hc) ?_
  refine lv_bipush (v := nI 12) hx hb d_SP_add_4 (by decide) ?_
  refine lk_cN_ge (tgt := 37) hx hb (by omega) (by omega) d_SP_add_6 (by decide) (fun h1 => ?_) (fun h1 => ?_)
  · exact lk_retv X h d_SP_add_37 ((if_pos (Or.inr (by omega))).symm)
  · refine lv_aload_n hx hb d_SP_add_9 rfl (lv_at hl 0 rfl) ?_
    refine lv_iload_n hx hb d_SP_add_10 rfl (lv_at hl 1 rfl) ?_
    refine lk_goi (lk_runV (As := [.int x]) (C := R_SP) X h (c_SP_has l D τ ad M n hc hn x) ⟨gc_SP_has, gm_SP_19, gn_SP, gd_SP_has, by decide, by decide⟩ gi_SP_has gs_SP_has ⟨3, 3, _, _, _, lk_w_get (by decide), rfl⟩ rfl hl.1 (Nat.le_of_ble_eq_true rfl) d_SP_add_11 ⟨Nat.zero_le _, Nat.zero_le _⟩) h hA (fun r11 σ11 H locs hk9 h => ?_)
    obtain ⟨hk9, hm9⟩ := hk9
    rw [hm9] at h
    rcases hk9 with ⟨e9, hT14⟩ | ⟨e9, hT14⟩
    · rw [e9]
      refine lv_if_ne (tgt := 37) hx hb d_SP_add_14 (by decide) (fun _ => ?_) (fun z => absurd z (by decide))
      exact lk_retv X h d_SP_add_37 ((if_pos (Or.inl hT14)).symm)
    · rw [e9]
      refine lv_if_ne (tgt := 37) hx hb d_SP_add_14 (by decide) (fun z => absurd z (by decide)) (fun _ => ?_)
      refine lv_aload_n hx hb d_SP_add_17 rfl (lv_at hl 0 rfl) ?_
      refine ct_get X h (q0 := 3) (by omega) rfl rfl gl_SP 0 (by decide) rfl gf_SP_9 rfl d_SP_add_18 ?_
      refine lv_aload_n hx hb d_SP_add_21 rfl (lv_at hl 0 rfl) ?_
      refine ct_get X h (q0 := 3) (by omega) rfl rfl gl_SP 1 (by decide) rfl gf_SP_15 rfl d_SP_add_22 ?_
      refine lk_top (nI n) (hc) ?_
      refine lv_iload_n hx hb d_SP_add_25 rfl (lv_at hl 1 rfl) ?_
      refine sp_ast X h (j := n) (v := x) (by omega) d_SP_add_26 (fun H locs h => ?_)
      refine lv_aload_n hx hb d_SP_add_27 rfl (lv_at hl 0 rfl) ?_
      refine lv_dup hx hb d_SP_add_28 rfl ?_
      refine ct_get X h (q0 := 3) (by omega) rfl rfl gl_SP 1 (by decide) rfl gf_SP_15 rfl d_SP_add_29 ?_
      refine lk_top (nI n) ((lk_st_f (by decide)).trans (hc)) ?_
      refine lv_iconst (v := nI 1) hx hb d_SP_add_32 (by decide) ?_
      refine lk_iaddN hx hb d_SP_add_33 ?_
      refine sp_put X h gf_SP_15 d_SP_add_34 (fun H locs h => ?_)
      exact lk_retv X h d_SP_add_37 ((if_neg (fun z => z.elim hT14 (by omega))).symm)
section
variable {pg : Program} {l : Launch} {en : Env} {R : Room} {s : State} {m : MethodId} {args : Array Value} {below : List Frame} {meth : Method} {cd : Code} {H : Heap} {locs : List Loc} {cells slots : Nat} {Q : State → Prop} {D : va_G} {τ : Nat → ClassId} {ad : Nat → Nat} {A : Nat → Prop} {H0 : Heap} {M : lk_M}
theorem w_SP_drop (X : lk_X pg s m args meth cd y_SP_drop b_SP_drop 4 (none) D τ) {n : Nat} {x : Int32} (hc : M 24 1 = nI n) (hn : n ≤ 12) : ∀ (r i : Nat), i + r = n → ∀ (H : Heap) (locs : List Loc) (ls : Array Slot), lk_H D lk_cl A H0 (lk_w 88 ad (lk_ce τ ad (lk_lqL M x i))) H locs → lv_has ls 4 [(3, .int (nI i)), (2, .int (nI ((lk_cmp (M 10) x i).2))), (0, .ref (ad 3)), (1, .int x)] → (∀ (H : Heap) (locs : List Loc) (ls : Array Slot), lk_H D lk_cl A H0 (lk_w 88 ad (lk_ce τ ad (lk_lqL M x n))) H locs → lv_has ls 4 [(3, .int (nI n)), (2, .int (nI ((lk_cmp (M 10) x n).2))), (0, .ref (ad 3)), (1, .int x)] → W pg l en R s m args below meth cd H locs cells slots Q (F0 m 43 ls [])) → W pg l en R s m args below meth cd H locs cells slots Q (F0 m 4 ls []) := by
  obtain ⟨hx, hb, -⟩ := id X
  intro r
  induction r with
  | zero =>
    intro i hi H locs ls h hl kk
    have hi : i = n := by omega
    subst hi
    have hc1 := (lk_lqL_24 M x i 1).trans hc
    refine lv_iload_n hx hb d_SP_drop_4 rfl (lv_at hl 0 rfl) ?_
    refine lv_aload_n hx hb d_SP_drop_5 rfl (lv_at hl 2 rfl) ?_
    refine ct_get X h (q0 := 3) (by omega) rfl rfl gl_SP 1 (by decide) rfl gf_SP_15 rfl d_SP_drop_6 ?_
    refine lk_top (nI i) (hc1) ?_
    refine lk_cN_ge (tgt := 43) hx hb (by omega) (by omega) d_SP_drop_9 (by decide) (fun h1 => ?_) (fun h1 => ?_)
    · exact kk H locs ls h hl
    · omega
  | succ r ih =>
    intro i hi H locs ls h hl kk
    have hle := lk_cmp_le (M 10) x i
    have hc1 := (lk_lqL_24 M x i 1).trans hc
    refine lv_iload_n hx hb d_SP_drop_4 rfl (lv_at hl 0 rfl) ?_
    refine lv_aload_n hx hb d_SP_drop_5 rfl (lv_at hl 2 rfl) ?_
    refine ct_get X h (q0 := 3) (by omega) rfl rfl gl_SP 1 (by decide) rfl gf_SP_15 rfl d_SP_drop_6 ?_
    refine lk_top (nI n) (hc1) ?_
    refine lk_cN_ge (tgt := 43) hx hb (by omega) (by omega) d_SP_drop_9 (by decide) (fun h1 => ?_) (fun h1 => ?_)
    · omega
    · refine lv_aload_n hx hb d_SP_drop_12 rfl (lv_at hl 2 rfl) ?_
      refine ct_get X h (q0 := 3) (by omega) rfl rfl gl_SP 0 (by decide) rfl gf_SP_9 rfl d_SP_drop_13 ?_
      refine lv_iload_n hx hb d_SP_drop_16 rfl (lv_at hl 0 rfl) ?_
      refine sp_ald X h (j := i) (by omega) d_SP_drop_17 ?_
      refine lv_iload_n hx hb d_SP_drop_18 rfl (lv_at hl 3 rfl) ?_
      refine lv_icmp_eq (tgt := 37) hx hb d_SP_drop_19 (by decide) (fun h2 => ?_) (fun h2 => ?_)
      · obtain ⟨e1, e2⟩ := lk_lqL_c M h2
        refine lv_iinc (k := 0) (v := nI (i + 1)) hx hb d_SP_drop_37 hl rfl (nI_1 _) (by decide) rfl (fun ls hl => ?_)
        have hl : lv_has ls 4 [(3, .int (nI (i + 1))), (2, .int (nI ((lk_cmp (M 10) x i).2))), (0, .ref (ad 3)), (1, .int x)] := hl
        refine lv_goto (tgt := 4) hx hb d_SP_drop_40 (by decide) ?_
        rw [e1] at h
        rw [e2] at hl
        exact ih (i + 1) (by omega) H locs ls h hl kk
      · obtain ⟨e1, e2⟩ := lk_lqL_s M h2
        refine lv_aload_n hx hb d_SP_drop_22 rfl (lv_at hl 2 rfl) ?_
        refine ct_get X h (q0 := 3) (by omega) rfl rfl gl_SP 0 (by decide) rfl gf_SP_9 rfl d_SP_drop_23 ?_
        refine lv_iload_n hx hb d_SP_drop_26 rfl (lv_at hl 1 rfl) ?_
        refine lv_aload_n hx hb d_SP_drop_27 rfl (lv_at hl 2 rfl) ?_
        refine ct_get X h (q0 := 3) (by omega) rfl rfl gl_SP 0 (by decide) rfl gf_SP_9 rfl d_SP_drop_28 ?_
        refine lv_iload_n hx hb d_SP_drop_31 rfl (lv_at hl 0 rfl) ?_
        refine sp_ald X h (j := i) (by omega) d_SP_drop_32 ?_
        refine sp_ast X h (j := (lk_cmp (M 10) x i).2) (v := (lk_lqL M x i) 10 i) (by omega) d_SP_drop_33 (fun H locs h => ?_)
        refine lv_iinc (k := 1) (v := nI ((lk_cmp (M 10) x i).2 + 1)) hx hb d_SP_drop_34 hl rfl (nI_1 _) (by decide) rfl (fun ls hl => ?_)
        have hl : lv_has ls 4 [(2, .int (nI ((lk_cmp (M 10) x i).2 + 1))), (3, .int (nI i)), (0, .ref (ad 3)), (1, .int x)] := hl
        refine lv_iinc (k := 1) (v := nI (i + 1)) hx hb d_SP_drop_37 hl rfl (nI_1 _) (by decide) rfl (fun ls hl => ?_)
        have hl : lv_has ls 4 [(3, .int (nI (i + 1))), (2, .int (nI ((lk_cmp (M 10) x i).2 + 1))), (0, .ref (ad 3)), (1, .int x)] := hl
        refine lv_goto (tgt := 4) hx hb d_SP_drop_40 (by decide) ?_
        rw [e1] at h
        rw [e2] at hl
        exact ih (i + 1) (by omega) H locs ls h hl kk
end
set_option maxRecDepth 20000 in
theorem c_SP_drop (l : Launch) (D : va_G) (τ : Nat → ClassId) (ad : Nat → Nat) (M : lk_M) (n : Nat) (hc : M 24 1 = nI n) (hn : n ≤ 12) (x : Int32) : lk_Cv l D τ 88 ad (lk_ce τ ad) y_SP_drop b_SP_drop 4 0 0 [.ref (ad 3), .int x] M (fun M1 => M1 = lk_lq M x n) := by
  refine lk_openv (by decide +kernel) (Nat.le_of_ble_eq_true rfl) ?_
  intro pg en s m args below meth cd ls A X h hA hl
  obtain ⟨hx, hb, -⟩ := id X
  have hl : lv_has ls 4 [(0, .ref (ad 3)), (1, .int x)] := hl
  refine lv_iconst (v := nI 0) hx hb d_SP_drop_0 (by decide) ?_
  refine lv_istore_n hx hb d_SP_drop_1 rfl hl (by decide) rfl (fun ls hl => ?_)
  have hl : lv_has ls 4 [(2, .int (nI 0)), (0, .ref (ad 3)), (1, .int x)] := hl
  refine lv_iconst (v := nI 0) hx hb d_SP_drop_2 (by decide) ?_
  refine lv_istore_n hx hb d_SP_drop_3 rfl hl (by decide) rfl (fun ls hl => ?_)
  have hl : lv_has ls 4 [(3, .int (nI 0)), (2, .int (nI 0)), (0, .ref (ad 3)), (1, .int x)] := hl
  refine w_SP_drop X hc hn n 0 (by omega) _ _ ls (by rw [lk_lqL_0]; exact h) hl (fun H locs ls h hl => ?_)
  refine lv_aload_n hx hb d_SP_drop_43 rfl (lv_at hl 2 rfl) ?_
  refine lv_iload_n hx hb d_SP_drop_44 rfl (lv_at hl 1 rfl) ?_
  refine sp_put X h gf_SP_15 d_SP_drop_45 (fun H locs h => ?_)
  exact lk_retv X h d_SP_drop_48 (lk_lqL_e M x n)
set_option maxRecDepth 20000 in
theorem c_SP_takeFirst (l : Launch) (D : va_G) (τ : Nat → ClassId) (ad : Nat → Nat) (M : lk_M) (n : Nat) (hc : M 24 1 = nI n) (hn : n ≤ 12) : lk_Ci l D τ 88 ad (lk_ce τ ad) y_SP_takeFirst b_SP_takeFirst 2 (.int) 1 23 [.ref (ad 3)] M (fun r M1 => (n = 0 → r = -1 ∧ M1 = M) ∧ (n ≠ 0 → r = M 10 0 ∧ M1 = lk_lq M (M 10 0) n)) := by
  refine lk_openi (by decide +kernel) (Nat.le_of_ble_eq_true rfl) ?_
  intro pg en s m args below meth cd ls A X h hA hl
  obtain ⟨hx, hb, -⟩ := id X
  have hl : lv_has ls 2 [(0, .ref (ad 3))] := hl
  refine lv_aload_n hx hb d_SP_takeFirst_0 rfl (lv_at hl 0 rfl) ?_
  refine ct_get X h (q0 := 3) (by omega) rfl rfl gl_SP 1 (by decide) rfl gf_SP_15 rfl d_SP_takeFirst_1 ?_
  refine lk_top (nI n) (hc) ?_
  refine lv_if_ne (tgt := 9) hx hb d_SP_takeFirst_4 (by decide) (fun h1 => ?_) (fun h1 => ?_)
  · have hne : n ≠ 0 := fun z => h1 (by rw [z]; rfl)
    refine lv_aload_n hx hb d_SP_takeFirst_9 rfl (lv_at hl 0 rfl) ?_
    refine ct_get X h (q0 := 3) (by omega) rfl rfl gl_SP 0 (by decide) rfl gf_SP_9 rfl d_SP_takeFirst_10 ?_
    refine lv_iconst (v := nI 0) hx hb d_SP_takeFirst_13 (by decide) ?_
    refine sp_ald X h (j := 0) (by omega) d_SP_takeFirst_14 ?_
    refine lv_istore_n hx hb d_SP_takeFirst_15 rfl hl (by decide) rfl (fun ls hl => ?_)
    have hl : lv_has ls 2 [(1, .int (M 10 0)), (0, .ref (ad 3))] := hl
    refine lv_aload_n hx hb d_SP_takeFirst_16 rfl (lv_at hl 1 rfl) ?_
    refine lv_iload_n hx hb d_SP_takeFirst_17 rfl (lv_at hl 0 rfl) ?_
    refine lk_gov (lk_runV (As := [.int (M 10 0)]) (C := R_SP) X h (c_SP_drop l D τ ad M n hc hn (M 10 0)) ⟨gc_SP_drop, gm_SP_23, gn_SP, gd_SP_drop, by decide, by decide⟩ gi_SP_drop gs_SP_drop ⟨3, 3, _, _, _, lk_w_get (by decide), rfl⟩ rfl hl.1 (Nat.le_of_ble_eq_true rfl) d_SP_takeFirst_18 ⟨Nat.zero_le _, Nat.zero_le _⟩) h hA (fun σ18 H locs hk9 h => ?_)
    rw [hk9] at h
    refine lv_iload_n hx hb d_SP_takeFirst_21 rfl (lv_at hl 0 rfl) ?_
    exact lk_reti X h d_SP_takeFirst_22 (⟨fun z => absurd z hne, fun _ => ⟨rfl, rfl⟩⟩)
  · have hne : n = 0 := (nI_eq (b := 0) (by omega) (by omega)).mp h1
    refine lv_iconst (v := (-1)) hx hb d_SP_takeFirst_7 (by decide) ?_
    exact lk_reti X h d_SP_takeFirst_8 (⟨fun _ => ⟨rfl, rfl⟩, fun z => absurd hne z⟩)
theorem lk_le_pred {x : Int32} {n : Nat} (hn : n < 1000) (h : ¬ nI (n + 1) ≤ x) : x ≤ nI n := by
  rw [Int32.le_iff_toInt_le, nI_toInt (by omega)] at h
  rw [Int32.le_iff_toInt_le, nI_toInt (by omega)]
  omega
set_option maxRecDepth 20000 in
theorem c_LT_isTask_no (l : Launch) (D : va_G) (τ : Nat → ClassId) (ad : Nat → Nat) (M : lk_M) (x : Int32) (hno : ¬ (0 ≤ x ∧ x ≤ 3)) : lk_Ci l D τ 88 ad (lk_ce τ ad) y_LT_isTask b_LT_isTask 1 (.boolean) 0 0 [.int x] M (fun r M1 => r = 0 ∧ M1 = M) := by
  refine lk_openi (by decide +kernel) (Nat.le_of_ble_eq_true rfl) ?_
  intro pg en s m args below meth cd ls A X h hA hl
  obtain ⟨hx, hb, -⟩ := id X
  have hl : lv_has ls 1 [(0, .int x)] := hl
  refine lv_iload_n hx hb d_LT_isTask_0 rfl (lv_at hl 0 rfl) ?_
  refine lv_if_lt (tgt := 13) hx hb d_LT_isTask_1 (by decide) (fun h1 => ?_) (fun h1 => ?_)
  · refine lv_iconst (v := 0) hx hb d_LT_isTask_13 (by decide) ?_
    exact lk_retz X h d_LT_isTask_14 (by decide) (⟨rfl, rfl⟩)
  · refine lv_iload_n hx hb d_LT_isTask_4 rfl (lv_at hl 0 rfl) ?_
    refine lv_iconst (v := nI 4) hx hb d_LT_isTask_5 (by decide) ?_
    refine lv_icmp_ge (tgt := 13) hx hb d_LT_isTask_6 (by decide) (fun h2 => ?_) (fun h2 => ?_)
    · refine lv_iconst (v := 0) hx hb d_LT_isTask_13 (by decide) ?_
      exact lk_retz X h d_LT_isTask_14 (by decide) (⟨rfl, rfl⟩)
    · exact absurd ⟨Int32.not_lt.mp h1, lk_le_pred (n := 3) (by decide) h2⟩ hno
set_option maxRecDepth 20000 in
theorem c_LT_isTask (l : Launch) (D : va_G) (τ : Nat → ClassId) (ad : Nat → Nat) (M : lk_M) (j : Nat) (hj : j < 4) : lk_Ci l D τ 88 ad (lk_ce τ ad) y_LT_isTask b_LT_isTask 1 (.boolean) 0 0 [.int (nI j)] M (fun r M1 => r = 1 ∧ M1 = M) := by
  refine lk_openi (by decide +kernel) (Nat.le_of_ble_eq_true rfl) ?_
  intro pg en s m args below meth cd ls A X h hA hl
  obtain ⟨hx, hb, -⟩ := id X
  have hl : lv_has ls 1 [(0, .int (nI j))] := hl
  refine lv_iload_n hx hb d_LT_isTask_0 rfl (lv_at hl 0 rfl) ?_
  refine lv_if_lt (tgt := 13) hx hb d_LT_isTask_1 (by decide) (fun h1 => ?_) (fun h1 => ?_)
  · exact absurd h1 (nI_pos (by omega))
  · refine lv_iload_n hx hb d_LT_isTask_4 rfl (lv_at hl 0 rfl) ?_
    refine lv_iconst (v := nI 4) hx hb d_LT_isTask_5 (by decide) ?_
    refine lk_cN_ge (tgt := 13) hx hb (by omega) (by omega) d_LT_isTask_6 (by decide) (fun h2 => ?_) (fun h2 => ?_)
    · omega
    · refine lv_iconst (v := 1) hx hb d_LT_isTask_9 (by decide) ?_
      refine lv_goto (tgt := 14) hx hb d_LT_isTask_10 (by decide) ?_
      exact lk_retz X h d_LT_isTask_14 (by decide) (⟨rfl, rfl⟩)
set_option maxRecDepth 20000 in
theorem c_LT_isPage_no (l : Launch) (D : va_G) (τ : Nat → ClassId) (ad : Nat → Nat) (M : lk_M) (x : Int32) (hno : ¬ (0 ≤ x ∧ x ≤ 23)) : lk_Ci l D τ 88 ad (lk_ce τ ad) y_LT_isPage b_LT_isPage 1 (.boolean) 0 0 [.int x] M (fun r M1 => r = 0 ∧ M1 = M) := by
  refine lk_openi (by decide +kernel) (Nat.le_of_ble_eq_true rfl) ?_
  intro pg en s m args below meth cd ls A X h hA hl
  obtain ⟨hx, hb, -⟩ := id X
  have hl : lv_has ls 1 [(0, .int x)] := hl
  refine lv_iload_n hx hb d_LT_isPage_0 rfl (lv_at hl 0 rfl) ?_
  refine lv_if_lt (tgt := 14) hx hb d_LT_isPage_1 (by decide) (fun h1 => ?_) (fun h1 => ?_)
  · refine lv_iconst (v := 0) hx hb d_LT_isPage_14 (by decide) ?_
    exact lk_retz X h d_LT_isPage_15 (by decide) (⟨rfl, rfl⟩)
  · refine lv_iload_n hx hb d_LT_isPage_4 rfl (lv_at hl 0 rfl) ?_
    refine lv_bipush (v := nI 24) hx hb d_LT_isPage_5 (by decide) ?_
    refine lv_icmp_ge (tgt := 14) hx hb d_LT_isPage_7 (by decide) (fun h2 => ?_) (fun h2 => ?_)
    · refine lv_iconst (v := 0) hx hb d_LT_isPage_14 (by decide) ?_
      exact lk_retz X h d_LT_isPage_15 (by decide) (⟨rfl, rfl⟩)
    · exact absurd ⟨Int32.not_lt.mp h1, lk_le_pred (n := 23) (by decide) h2⟩ hno
set_option maxRecDepth 20000 in
theorem c_LT_isPage (l : Launch) (D : va_G) (τ : Nat → ClassId) (ad : Nat → Nat) (M : lk_M) (j : Nat) (hj : j < 24) : lk_Ci l D τ 88 ad (lk_ce τ ad) y_LT_isPage b_LT_isPage 1 (.boolean) 0 0 [.int (nI j)] M (fun r M1 => r = 1 ∧ M1 = M) := by
  refine lk_openi (by decide +kernel) (Nat.le_of_ble_eq_true rfl) ?_
  intro pg en s m args below meth cd ls A X h hA hl
  obtain ⟨hx, hb, -⟩ := id X
  have hl : lv_has ls 1 [(0, .int (nI j))] := hl
  refine lv_iload_n hx hb d_LT_isPage_0 rfl (lv_at hl 0 rfl) ?_
  refine lv_if_lt (tgt := 14) hx hb d_LT_isPage_1 (by decide) (fun h1 => ?_) (fun h1 => ?_)
  · exact absurd h1 (nI_pos (by omega))
  · refine lv_iload_n hx hb d_LT_isPage_4 rfl (lv_at hl 0 rfl) ?_
    refine lv_bipush (v := nI 24) hx hb d_LT_isPage_5 (by decide) ?_
    refine lk_cN_ge (tgt := 14) hx hb (by omega) (by omega) d_LT_isPage_7 (by decide) (fun h2 => ?_) (fun h2 => ?_)
    · omega
    · refine lv_iconst (v := 1) hx hb d_LT_isPage_10 (by decide) ?_
      refine lv_goto (tgt := 15) hx hb d_LT_isPage_11 (by decide) ?_
      exact lk_retz X h d_LT_isPage_15 (by decide) (⟨rfl, rfl⟩)
set_option maxRecDepth 20000 in
theorem c_LT_nodeAt (l : Launch) (D : va_G) (τ : Nat → ClassId) (ad : Nat → Nat) (M : lk_M) (j : Nat) (hj : j < 24) : lk_Cq l D τ 88 ad (lk_ce τ ad) y_LT_nodeAt b_LT_nodeAt 2 (.object "LinkTree$Node") 1 20 [.ref (ad 0), .int (nI j)] M (fun r M1 => r = some (ad (5 + j)) ∧ M1 = M) := by
  refine lk_openq (by decide +kernel) (Nat.le_of_ble_eq_true rfl) ?_
  intro pg en s m args below meth cd ls A X h hA hl
  obtain ⟨hx, hb, -⟩ := id X
  have hl : lv_has ls 2 [(0, .ref (ad 0)), (1, .int (nI j))] := hl
  refine lv_iload_n hx hb d_LT_nodeAt_0 rfl (lv_at hl 1 rfl) ?_
  refine lk_goi (lk_runS (As := [.int (nI j)]) X h (c_LT_isPage l D τ ad M j hj) ⟨gc_LT_isPage, gm_LT_127, gn_LT, gd_LT_isPage, by decide, by decide⟩ gt_LT_isPage rfl hl.1 (Nat.le_of_ble_eq_true rfl) d_LT_nodeAt_1 ⟨Nat.zero_le _, Nat.zero_le _⟩) h hA (fun r1 σ1 H locs hk9 h => ?_)
  rw [hk9.2] at h
  rw [hk9.1]
  refine lv_if_eq (tgt := 16) hx hb d_LT_nodeAt_4 (by decide) (fun z => absurd z (by decide)) (fun _ => ?_)
  refine lv_aload_n hx hb d_LT_nodeAt_7 rfl (lv_at hl 0 rfl) ?_
  refine ct_get X h (q0 := 0) (by omega) rfl rfl gl_LT 0 (by decide) rfl gf_LT_11 rfl d_LT_nodeAt_8 ?_
  refine lv_iload_n hx hb d_LT_nodeAt_11 rfl (lv_at hl 1 rfl) ?_
  refine lt_ndq X h (j := j) (by omega) d_LT_nodeAt_12 ?_
  refine lv_goto (tgt := 20) hx hb d_LT_nodeAt_13 (by decide) ?_
  exact lk_retq X h d_LT_nodeAt_20 (⟨rfl, rfl⟩)
set_option maxRecDepth 20000 in
theorem c_LT_nodeAt_no (l : Launch) (D : va_G) (τ : Nat → ClassId) (ad : Nat → Nat) (M : lk_M) (x : Int32) (hno : ¬ (0 ≤ x ∧ x ≤ 23)) : lk_Cq l D τ 88 ad (lk_ce τ ad) y_LT_nodeAt b_LT_nodeAt 2 (.object "LinkTree$Node") 1 20 [.ref (ad 0), .int x] M (fun r M1 => r = some (ad (5 + 24)) ∧ M1 = M) := by
  refine lk_openq (by decide +kernel) (Nat.le_of_ble_eq_true rfl) ?_
  intro pg en s m args below meth cd ls A X h hA hl
  obtain ⟨hx, hb, -⟩ := id X
  have hl : lv_has ls 2 [(0, .ref (ad 0)), (1, .int x)] := hl
  refine lv_iload_n hx hb d_LT_nodeAt_0 rfl (lv_at hl 1 rfl) ?_
  refine lk_goi (lk_runS (As := [.int x]) X h (c_LT_isPage_no l D τ ad M x hno) ⟨gc_LT_isPage, gm_LT_127, gn_LT, gd_LT_isPage, by decide, by decide⟩ gt_LT_isPage rfl hl.1 (Nat.le_of_ble_eq_true rfl) d_LT_nodeAt_1 ⟨Nat.zero_le _, Nat.zero_le _⟩) h hA (fun r1 σ1 H locs hk9 h => ?_)
  rw [hk9.2] at h
  rw [hk9.1]
  refine lv_if_eq (tgt := 16) hx hb d_LT_nodeAt_4 (by decide) (fun _ => ?_) (fun z => absurd z (by decide))
  refine lv_aload_n hx hb d_LT_nodeAt_16 rfl (lv_at hl 0 rfl) ?_
  refine ct_get X h (q0 := 0) (by omega) rfl rfl gl_LT 1 (by decide) rfl gf_LT_18 rfl d_LT_nodeAt_17 ?_
  exact lk_retq X h d_LT_nodeAt_20 (⟨rfl, rfl⟩)
section
variable {pg : Program} {l : Launch} {en : Env} {R : Room} {s : State} {m : MethodId} {args : Array Value} {below : List Frame} {meth : Method} {cd : Code} {H : Heap} {locs : List Loc} {cells slots : Nat} {Q : State → Prop} {D : va_G} {τ : Nat → ClassId} {ad : Nat → Nat} {A : Nat → Prop} {H0 : Heap} {M : lk_M}
def lk_fn (ad : Nat → Nat) (j : Nat) : Option Nat := if j < 24 then some (ad (5 + j)) else none
theorem w_LT_leastFreeNode (X : lk_X pg s m args meth cd y_LT_leastFreeNode b_LT_leastFreeNode 2 (some (.object "LinkTree$Node")) D τ) (h : lk_H D lk_cl A s.heap (lk_w 88 ad (lk_ce τ ad M)) H locs) {post : Option Nat → lk_M → Prop} : ∀ (r k : Nat), k + r = 24 → post (lk_fn ad (lk_ff (M 0) 0 r k)) M → ∀ ls : Array Slot, lv_has ls 2 [(1, .int (nI k)), (0, .ref (ad 0))] → W pg l en R s m args below meth cd H locs 0 0 (MQ below (va_Qq post (lk_Bh D τ 88 ad (lk_ce τ ad)) A) args s 0 0 A) (F0 m 2 ls []) := by
  obtain ⟨hx, hb, -⟩ := id X
  intro r
  induction r with
  | zero =>
    intro k hk hp ls hl
    refine lv_iload_n hx hb d_LT_leastFreeNode_2 rfl (lv_at hl 0 rfl) ?_
    refine lv_bipush (v := nI 24) hx hb d_LT_leastFreeNode_3 (by decide) ?_
    refine lk_cN_ge (tgt := 33) hx hb (by omega) (by omega) d_LT_leastFreeNode_5 (by decide) (fun h1 => ?_) (fun h1 => ?_)
    · have e1 : lk_fn ad (lk_ff (M 0) 0 0 k) = none := if_neg (by show ¬ k < 24; omega)
      rw [e1] at hp
      refine lv_null hx hb d_LT_leastFreeNode_33 ?_
      exact lk_retn X h d_LT_leastFreeNode_34 hp
    · omega
  | succ r ih =>
    intro k hk hp ls hl
    have e0 : lk_ff (M 0) 0 (r + 1) k = if M 0 k = 0 then k else lk_ff (M 0) 0 r (k + 1) := rfl
    refine lv_iload_n hx hb d_LT_leastFreeNode_2 rfl (lv_at hl 0 rfl) ?_
    refine lv_bipush (v := nI 24) hx hb d_LT_leastFreeNode_3 (by decide) ?_
    refine lk_cN_ge (tgt := 33) hx hb (by omega) (by omega) d_LT_leastFreeNode_5 (by decide) (fun h1 => ?_) (fun h1 => ?_)
    · omega
    · refine lv_aload_n hx hb d_LT_leastFreeNode_8 rfl (lv_at hl 1 rfl) ?_
      refine ct_get X h (q0 := 0) (by omega) rfl rfl gl_LT 0 (by decide) rfl gf_LT_11 rfl d_LT_leastFreeNode_9 ?_
      refine lv_iload_n hx hb d_LT_leastFreeNode_12 rfl (lv_at hl 0 rfl) ?_
      refine lt_ndq X h (j := k) (by omega) d_LT_leastFreeNode_13 ?_
      refine ct_get X h (q0 := 5 + k) (by omega) (lk_ce_n (by omega)) rfl gl_ND 4 (by decide) rfl gf_LT_22 rfl d_LT_leastFreeNode_14 ?_
      refine lv_if_ne (tgt := 27) hx hb d_LT_leastFreeNode_17 (by decide) (fun h2 => ?_) (fun h2 => ?_)
      · refine lv_iinc (k := 0) (v := nI (k + 1)) hx hb d_LT_leastFreeNode_27 hl rfl (nI_1 _) (by decide) rfl (fun ls hl => ?_)
        have hl : lv_has ls 2 [(1, .int (nI (k + 1))), (0, .ref (ad 0))] := hl
        refine lv_goto (tgt := 2) hx hb d_LT_leastFreeNode_30 (by decide) ?_
        refine ih (k + 1) (by omega) ?_ ls hl
        rw [e0, if_neg h2] at hp
        exact hp
      · refine lv_aload_n hx hb d_LT_leastFreeNode_20 rfl (lv_at hl 1 rfl) ?_
        refine ct_get X h (q0 := 0) (by omega) rfl rfl gl_LT 0 (by decide) rfl gf_LT_11 rfl d_LT_leastFreeNode_21 ?_
        refine lv_iload_n hx hb d_LT_leastFreeNode_24 rfl (lv_at hl 0 rfl) ?_
        refine lt_ndq X h (j := k) (by omega) d_LT_leastFreeNode_25 ?_
        rw [e0, if_pos h2] at hp
        have e1 : lk_fn ad k = some (ad (5 + k)) := if_pos (by omega)
        rw [e1] at hp
        exact lk_retq X h d_LT_leastFreeNode_26 (hp)
end
set_option maxRecDepth 20000 in
theorem c_LT_leastFreeNode (l : Launch) (D : va_G) (τ : Nat → ClassId) (ad : Nat → Nat) (M : lk_M) : lk_Cq l D τ 88 ad (lk_ce τ ad) y_LT_leastFreeNode b_LT_leastFreeNode 2 (.object "LinkTree$Node") 0 0 [.ref (ad 0)] M (fun r M1 => r = lk_fn ad (lk_free M) ∧ M1 = M) := by
  refine lk_openq (by decide +kernel) (Nat.le_of_ble_eq_true rfl) ?_
  intro pg en s m args below meth cd ls A X h hA hl
  obtain ⟨hx, hb, -⟩ := id X
  have hl : lv_has ls 2 [(0, .ref (ad 0))] := hl
  refine lv_iconst (v := nI 0) hx hb d_LT_leastFreeNode_0 (by decide) ?_
  refine lv_istore_n hx hb d_LT_leastFreeNode_1 rfl hl (by decide) rfl (fun ls hl => ?_)
  have hl : lv_has ls 2 [(1, .int (nI 0)), (0, .ref (ad 0))] := hl
  exact w_LT_leastFreeNode X h 24 0 (by omega) ⟨rfl, rfl⟩ ls hl
def cc_lock (σ : lk_M) (t q : Nat) : Int32 × lk_M := if σ 6 q = -1 ∨ σ 6 q = nI t then (0, lk_st (lk_st σ 6 q (nI t)) 13 t 2) else (1, σ)
theorem cc_rst (σ : lk_M) (t : Nat) : lk_srch (lk_nop (lk_st σ 22 (4 * t + 3) (σ 22 (4 * t + 3) + 1)) t) t (σ 24 0) = lk_rst σ t := by
  funext f i
  unfold lk_rst lk_srch lk_nop
  simp only [lk_st_eq, lk_up_eq]
  by_cases h : f = 22
  · subst h; simp
  · by_cases h2 : f = 19
    · subst h2; simp
    · simp [h, h2]
theorem cc_rgt (σ : lk_M) (t q : Nat) : lk_st (lk_st σ 22 (4 * t + 2) (σ 22 (4 * t + 2) + 1)) 14 t (σ 4 q) = lk_rgt σ t q := by
  funext f i
  unfold lk_rgt
  simp only [lk_st_eq]
  by_cases h : f = 22
  · subst h; simp
  · simp [h]
set_option maxRecDepth 20000 in
theorem c_LT_lock (l : Launch) (D : va_G) (τ : Nat → ClassId) (ad : Nat → Nat) (M : lk_M) (t q : Nat) (ht : t < 4) (hq : q < 25) : lk_Ci l D τ 88 ad (lk_ce τ ad) y_LT_lock b_LT_lock 3 (.int) 0 0 [.ref (ad 0), .ref (ad (80 + t)), .ref (ad (5 + q))] M (fun r M1 => r = (cc_lock M t q).1 ∧ M1 = (cc_lock M t q).2) := by
  refine lk_openi (by decide +kernel) (Nat.le_of_ble_eq_true rfl) ?_
  intro pg en s m args below meth cd ls A X h hA hl
  obtain ⟨hx, hb, -⟩ := id X
  have hl : lv_has ls 3 [(0, .ref (ad 0)), (1, .ref (ad (80 + t))), (2, .ref (ad (5 + q)))] := hl
  refine lv_aload_n hx hb d_LT_lock_0 rfl (lv_at hl 2 rfl) ?_
  refine ct_get X h (q0 := 5 + q) (by omega) (lk_ce_n (by omega)) rfl gl_ND 9 (by decide) rfl gf_LT_145 rfl d_LT_lock_1 ?_
  refine lv_iconst (v := (-1)) hx hb d_LT_lock_4 (by decide) ?_
  refine lv_icmp_eq (tgt := 21) hx hb d_LT_lock_5 (by decide) (fun h1 => ?_) (fun h1 => ?_)
  · refine lv_aload_n hx hb d_LT_lock_21 rfl (lv_at hl 2 rfl) ?_
    refine lv_aload_n hx hb d_LT_lock_22 rfl (lv_at hl 1 rfl) ?_
    refine ct_get X h (q0 := 80 + t) (by omega) (lk_ce_t (by omega)) rfl gl_TA 0 (by decide) rfl gf_LT_223 rfl d_LT_lock_23 ?_
    refine nd_put9 X h (q := q) (by omega) gf_LT_145 d_LT_lock_26 (fun H locs h => ?_)
    refine lv_aload_n hx hb d_LT_lock_29 rfl (lv_at hl 1 rfl) ?_
    refine lv_iconst (v := 2) hx hb d_LT_lock_30 (by decide) ?_
    refine ta_put4 X h (t := t) (by omega) gf_LT_115 d_LT_lock_31 (fun H locs h => ?_)
    refine lv_iconst (v := 0) hx hb d_LT_lock_34 (by decide) ?_
    exact lk_reti X h d_LT_lock_35 (by rw [cc_lock, if_pos (Or.inl h1)]; exact ⟨rfl, rfl⟩)
  · refine lv_aload_n hx hb d_LT_lock_8 rfl (lv_at hl 2 rfl) ?_
    refine ct_get X h (q0 := 5 + q) (by omega) (lk_ce_n (by omega)) rfl gl_ND 9 (by decide) rfl gf_LT_145 rfl d_LT_lock_9 ?_
    refine lv_aload_n hx hb d_LT_lock_12 rfl (lv_at hl 1 rfl) ?_
    refine ct_get X h (q0 := 80 + t) (by omega) (lk_ce_t (by omega)) rfl gl_TA 0 (by decide) rfl gf_LT_223 rfl d_LT_lock_13 ?_
    refine lv_icmp_eq (tgt := 21) hx hb d_LT_lock_16 (by decide) (fun h2 => ?_) (fun h2 => ?_)
    · refine lv_aload_n hx hb d_LT_lock_21 rfl (lv_at hl 2 rfl) ?_
      refine lv_aload_n hx hb d_LT_lock_22 rfl (lv_at hl 1 rfl) ?_
      refine ct_get X h (q0 := 80 + t) (by omega) (lk_ce_t (by omega)) rfl gl_TA 0 (by decide) rfl gf_LT_223 rfl d_LT_lock_23 ?_
      refine nd_put9 X h (q := q) (by omega) gf_LT_145 d_LT_lock_26 (fun H locs h => ?_)
      refine lv_aload_n hx hb d_LT_lock_29 rfl (lv_at hl 1 rfl) ?_
      refine lv_iconst (v := 2) hx hb d_LT_lock_30 (by decide) ?_
      refine ta_put4 X h (t := t) (by omega) gf_LT_115 d_LT_lock_31 (fun H locs h => ?_)
      refine lv_iconst (v := 0) hx hb d_LT_lock_34 (by decide) ?_
      exact lk_reti X h d_LT_lock_35 (by rw [cc_lock, if_pos (Or.inr h2)]; exact ⟨rfl, rfl⟩)
    · refine lv_iconst (v := 1) hx hb d_LT_lock_19 (by decide) ?_
      exact lk_reti X h d_LT_lock_20 (by rw [cc_lock, if_neg (fun z => z.elim h1 h2)]; exact ⟨rfl, rfl⟩)
set_option maxRecDepth 20000 in
theorem c_LT_restart (l : Launch) (D : va_G) (τ : Nat → ClassId) (ad : Nat → Nat) (M : lk_M) (t : Nat) (ht : t < 4) : lk_Ci l D τ 88 ad (lk_ce τ ad) y_LT_restart b_LT_restart 2 (.int) 1 22 [.ref (ad 0), .ref (ad (80 + t))] M (fun r M1 => r = 0 ∧ M1 = lk_rst M t) := by
  refine lk_openi (by decide +kernel) (Nat.le_of_ble_eq_true rfl) ?_
  intro pg en s m args below meth cd ls A X h hA hl
  obtain ⟨hx, hb, -⟩ := id X
  have hl : lv_has ls 2 [(0, .ref (ad 0)), (1, .ref (ad (80 + t)))] := hl
  refine lv_aload_n hx hb d_LT_restart_0 rfl (lv_at hl 1 rfl) ?_
  refine lv_dup hx hb d_LT_restart_1 rfl ?_
  refine ct_get X h (q0 := 80 + t) (by omega) (lk_ce_t (by omega)) rfl gl_TA 15 (by decide) rfl gf_LT_124 rfl d_LT_restart_2 ?_
  refine lv_iconst (v := 1) hx hb d_LT_restart_5 (by decide) ?_
  refine lv_iadd hx hb d_LT_restart_6 ?_
  refine ta_put15 X h (t := t) (by omega) gf_LT_124 d_LT_restart_7 (fun H locs h => ?_)
  refine lv_aload_n hx hb d_LT_restart_10 rfl (lv_at hl 1 rfl) ?_
  refine lv_aload_n hx hb d_LT_restart_11 rfl (lv_at hl 0 rfl) ?_
  refine ct_get X h (q0 := 0) (by omega) rfl rfl gl_LT 4 (by decide) rfl gf_LT_40 rfl d_LT_restart_12 ?_
  refine lk_top (M 24 0) (lk_st_f (by decide)) ?_
  refine lk_gov (lk_runV (As := [.int (M 24 0)]) (C := R_TA) X h (c_TA_searchAnew l D τ ad _ t ht _) ⟨gc_TA_searchAnew, gm_LT_81, gn_TA, gd_TA_searchAnew, by decide, by decide⟩ gi_TA_searchAnew gs_TA_searchAnew ⟨80 + t, 2, _, _, _, by rw [lk_w_get (by omega), lk_ce_t (by omega)], rfl⟩ rfl hl.1 (Nat.le_of_ble_eq_true rfl) d_LT_restart_15 ⟨Nat.zero_le _, Nat.zero_le _⟩) h hA (fun σ15 H locs hk9 h => ?_)
  rw [hk9, cc_rst] at h
  refine lv_iconst (v := 0) hx hb d_LT_restart_18 (by decide) ?_
  exact lk_reti X h d_LT_restart_19 (⟨rfl, rfl⟩)
set_option maxRecDepth 20000 in
theorem c_LT_goRight (l : Launch) (D : va_G) (τ : Nat → ClassId) (ad : Nat → Nat) (M : lk_M) (t q : Nat) (ht : t < 4) (hq : q < 25) : lk_Ci l D τ 88 ad (lk_ce τ ad) y_LT_goRight b_LT_goRight 3 (.int) 0 0 [.ref (ad 0), .ref (ad (80 + t)), .ref (ad (5 + q))] M (fun r M1 => r = 0 ∧ M1 = lk_rgt M t q) := by
  refine lk_openi (by decide +kernel) (Nat.le_of_ble_eq_true rfl) ?_
  intro pg en s m args below meth cd ls A X h hA hl
  obtain ⟨hx, hb, -⟩ := id X
  have hl : lv_has ls 3 [(0, .ref (ad 0)), (1, .ref (ad (80 + t))), (2, .ref (ad (5 + q)))] := hl
  refine lv_aload_n hx hb d_LT_goRight_0 rfl (lv_at hl 1 rfl) ?_
  refine lv_dup hx hb d_LT_goRight_1 rfl ?_
  refine ct_get X h (q0 := 80 + t) (by omega) (lk_ce_t (by omega)) rfl gl_TA 14 (by decide) rfl gf_LT_121 rfl d_LT_goRight_2 ?_
  refine lv_iconst (v := 1) hx hb d_LT_goRight_5 (by decide) ?_
  refine lv_iadd hx hb d_LT_goRight_6 ?_
  refine ta_put14 X h (t := t) (by omega) gf_LT_121 d_LT_goRight_7 (fun H locs h => ?_)
  refine lv_aload_n hx hb d_LT_goRight_10 rfl (lv_at hl 1 rfl) ?_
  refine lv_aload_n hx hb d_LT_goRight_11 rfl (lv_at hl 2 rfl) ?_
  refine ct_get X h (q0 := 5 + q) (by omega) (lk_ce_n (by omega)) rfl gl_ND 8 (by decide) rfl gf_LT_139 rfl d_LT_goRight_12 ?_
  refine lk_top (M 4 q) (lk_st_f (by decide)) ?_
  refine ta_put5 X h (t := t) (by omega) gf_LT_118 d_LT_goRight_15 (fun H locs h => ?_)
  refine lv_iconst (v := 0) hx hb d_LT_goRight_18 (by decide) ?_
  exact lk_reti X h d_LT_goRight_19 (⟨rfl, cc_rgt M t q⟩)
def cc_finL (σ : lk_M) (t k : Nat) : lk_M :=
  va_up (va_up σ 9 (fun p => if p < k ∧ σ 0 p = 2 then σ 9 p &&& lk_off t else σ 9 p)) 0 (fun p => if p < k ∧ σ 0 p = 2 ∧ σ 9 p &&& lk_off t = 0 then 0 else σ 0 p)
def cc_fin (σ : lk_M) (t : Nat) (a : Int32) : lk_M := cc_finL (lk_st (lk_st (lk_st σ 11 t 1) 20 t 1) 21 t a) t 24
theorem cc_finL_0 (σ : lk_M) (t : Nat) : cc_finL σ t 0 = σ := by
  funext f i
  unfold cc_finL
  simp only [lk_up_eq]
  by_cases h0 : f = 0
  · subst h0; simp
  · by_cases h9 : f = 9
    · subst h9; simp
    · simp [h0, h9]
theorem cc_finL_s (σ : lk_M) (t k : Nat) : cc_an (cc_finL σ t k) k t = cc_finL σ t (k + 1) := by
  have e9 : cc_finL σ t k 9 k = σ 9 k := by unfold cc_finL; simp [lk_up_eq]
  have e0 : cc_finL σ t k 0 k = σ 0 k := by unfold cc_finL; simp [lk_up_eq]
  unfold cc_an
  rw [e0, e9]
  by_cases hc : σ 0 k = 2
  · rw [if_pos hc]
    funext f i
    unfold cc_du cc_finL
    simp only [lk_st_eq, lk_up_eq]
    by_cases h0 : f = 0
    · subst h0
      by_cases hi : i = k
      · subst hi
        by_cases hz : σ 9 i &&& lk_off t = 0
        · simp [hc, hz]
        · simp [hc, hz]
      · simp only [hi, and_false, if_false, if_true]
        by_cases hl : i < k
        · simp [hl, show i < k + 1 by omega]
        · simp [hl, show ¬ i < k + 1 by omega]
    · by_cases h9 : f = 9
      · subst h9
        by_cases hi : i = k
        · subst hi; simp [hc]
        · simp only [hi, and_false, if_false, if_true]
          by_cases hl : i < k
          · simp [hl, show i < k + 1 by omega]
          · simp [hl, show ¬ i < k + 1 by omega]
      · simp [h0, h9]
  · rw [if_neg hc]
    funext f i
    unfold cc_finL
    simp only [lk_up_eq]
    by_cases h0 : f = 0
    · subst h0
      by_cases hi : i = k
      · subst hi; simp [hc]
      · simp only [if_true]
        by_cases hl : i < k
        · simp [hl, show i < k + 1 by omega]
        · simp [hl, show ¬ i < k + 1 by omega]
    · by_cases h9 : f = 9
      · subst h9
        by_cases hi : i = k
        · subst hi; simp [hc]
        · simp only [if_true]
          by_cases hl : i < k
          · simp [hl, show i < k + 1 by omega]
          · simp [hl, show ¬ i < k + 1 by omega]
      · simp [h0, h9]
section
variable {pg : Program} {l : Launch} {en : Env} {R : Room} {s : State} {m : MethodId} {args : Array Value} {below : List Frame} {meth : Method} {cd : Code} {H : Heap} {locs : List Loc} {cells slots : Nat} {Q : State → Prop} {D : va_G} {τ : Nat → ClassId} {ad : Nat → Nat} {A : Nat → Prop} {H0 : Heap} {M : lk_M}
theorem w_LT_finish (X : lk_X pg s m args meth cd y_LT_finish b_LT_finish 4 (some (.int)) D τ) (hA : ∀ q, H0.size ≤ q → A q) (hR : 2 ≤ R.frames ∧ 42 ≤ R.locals) {t : Nat} {a : Int32} (ht : t < 4) : ∀ (r k : Nat), k + r = 24 → ∀ (H : Heap) (locs : List Loc) (ls : Array Slot), lk_H D lk_cl A H0 (lk_w 88 ad (lk_ce τ ad (cc_finL M t k))) H locs → lv_has ls 4 [(3, .int (nI k)), (0, .ref (ad 0)), (1, .ref (ad (80 + t))), (2, .int a)] → (∀ (H : Heap) (locs : List Loc) (ls : Array Slot), lk_H D lk_cl A H0 (lk_w 88 ad (lk_ce τ ad (cc_finL M t 24))) H locs → W pg l en R s m args below meth cd H locs 0 0 Q (F0 m 42 ls [])) → W pg l en R s m args below meth cd H locs 0 0 Q (F0 m 17 ls []) := by
  obtain ⟨hx, hb, -⟩ := id X
  intro r
  induction r with
  | zero =>
    intro k hk H locs ls h hl kk
    have hk : k = 24 := by omega
    subst hk
    refine lv_iload_n hx hb d_LT_finish_17 rfl (lv_at hl 0 rfl) ?_
    refine lv_bipush (v := nI 24) hx hb d_LT_finish_18 (by decide) ?_
    refine lk_cN_ge (tgt := 42) hx hb (by omega) (by omega) d_LT_finish_20 (by decide) (fun h1 => ?_) (fun h1 => ?_)
    · exact kk H locs ls h
    · omega
  | succ r ih =>
    intro k hk H locs ls h hl kk
    refine lv_iload_n hx hb d_LT_finish_17 rfl (lv_at hl 0 rfl) ?_
    refine lv_bipush (v := nI 24) hx hb d_LT_finish_18 (by decide) ?_
    refine lk_cN_ge (tgt := 42) hx hb (by omega) (by omega) d_LT_finish_20 (by decide) (fun h1 => ?_) (fun h1 => ?_)
    · omega
    · refine lv_aload_n hx hb d_LT_finish_23 rfl (lv_at hl 1 rfl) ?_
      refine ct_get X h (q0 := 0) (by omega) rfl rfl gl_LT 0 (by decide) rfl gf_LT_11 rfl d_LT_finish_24 ?_
      refine lv_iload_n hx hb d_LT_finish_27 rfl (lv_at hl 0 rfl) ?_
      refine lt_ndq X h (j := k) (by omega) d_LT_finish_28 ?_
      refine lv_aload_n hx hb d_LT_finish_29 rfl (lv_at hl 2 rfl) ?_
      refine ct_get X h (q0 := 80 + t) (by omega) (lk_ce_t (by omega)) rfl gl_TA 0 (by decide) rfl gf_LT_223 rfl d_LT_finish_30 ?_
      refine lk_gov (lk_runV (As := [.int (nI t)]) (C := R_ND) X h (c_ND_awaitNoMore l D τ ad _ k t (by omega) ht) ⟨gc_ND_awaitNoMore, gm_LT_236, gn_ND, gd_ND_awaitNoMore, (hR).1, (hR).2⟩ gi_ND_awaitNoMore gs_ND_awaitNoMore ⟨5 + k, 1, _, _, _, by rw [lk_w_get (by omega), lk_ce_n (by omega)], rfl⟩ rfl hl.1 (Nat.le_of_ble_eq_true rfl) d_LT_finish_33 ⟨Nat.zero_le _, Nat.zero_le _⟩) h hA (fun σ33 H locs hk9 h => ?_)
      rw [hk9, cc_finL_s] at h
      refine lv_iinc (k := 0) (v := nI (k + 1)) hx hb d_LT_finish_36 hl rfl (nI_1 _) (by decide) rfl (fun ls hl => ?_)
      have hl : lv_has ls 4 [(3, .int (nI (k + 1))), (0, .ref (ad 0)), (1, .ref (ad (80 + t))), (2, .int a)] := hl
      refine lv_goto (tgt := 17) hx hb d_LT_finish_39 (by decide) ?_
      exact ih (k + 1) (by omega) H locs ls h hl kk
end
set_option maxRecDepth 20000 in
theorem c_LT_finish (l : Launch) (D : va_G) (τ : Nat → ClassId) (ad : Nat → Nat) (M : lk_M) (t : Nat) (ht : t < 4) (a : Int32) : lk_Ci l D τ 88 ad (lk_ce τ ad) y_LT_finish b_LT_finish 4 (.int) 2 42 [.ref (ad 0), .ref (ad (80 + t)), .int a] M (fun r M1 => r = 2 ∧ M1 = cc_fin M t a) := by
  refine lk_openi (by decide +kernel) (Nat.le_of_ble_eq_true rfl) ?_
  intro pg en s m args below meth cd ls A X h hA hl
  obtain ⟨hx, hb, -⟩ := id X
  have hl : lv_has ls 4 [(0, .ref (ad 0)), (1, .ref (ad (80 + t))), (2, .int a)] := hl
  refine lv_aload_n hx hb d_LT_finish_0 rfl (lv_at hl 1 rfl) ?_
  refine lv_iconst (v := 1) hx hb d_LT_finish_1 (by decide) ?_
  refine ta_put2 X h (t := t) (by decide) (by omega) gf_LT_60 d_LT_finish_2 (fun H locs h => ?_)
  refine lv_aload_n hx hb d_LT_finish_5 rfl (lv_at hl 1 rfl) ?_
  refine lv_iconst (v := 1) hx hb d_LT_finish_6 (by decide) ?_
  refine ta_put10 X h (t := t) (by decide) (by omega) gf_LT_102 d_LT_finish_7 (fun H locs h => ?_)
  refine lv_aload_n hx hb d_LT_finish_10 rfl (lv_at hl 1 rfl) ?_
  refine lv_iload_n hx hb d_LT_finish_11 rfl (lv_at hl 2 rfl) ?_
  refine ta_put11 X h (t := t) (by omega) gf_LT_110 d_LT_finish_12 (fun H locs h => ?_)
  refine lv_iconst (v := nI 0) hx hb d_LT_finish_15 (by decide) ?_
  refine lv_istore_n hx hb d_LT_finish_16 rfl hl (by decide) rfl (fun ls hl => ?_)
  have hl : lv_has ls 4 [(3, .int (nI 0)), (0, .ref (ad 0)), (1, .ref (ad (80 + t))), (2, .int a)] := hl
  refine w_LT_finish X hA (by decide) ht 24 0 (by omega) _ _ ls (by rw [cc_finL_0]; exact h) hl (fun H locs ls h => ?_)
  refine lv_iconst (v := 2) hx hb d_LT_finish_42 (by decide) ?_
  exact lk_reti X h d_LT_finish_43 (⟨rfl, rfl⟩)
noncomputable def cc_die (σ : lk_M) (q t n : Nat) : lk_M := cc_du (lk_lq σ (nI q) n) q (lk_mask (fun u => σ 11 u = 0) t 4)
section
variable {pg : Program} {l : Launch} {en : Env} {R : Room} {s : State} {m : MethodId} {args : Array Value} {below : List Frame} {meth : Method} {cd : Code} {H : Heap} {locs : List Loc} {cells slots : Nat} {Q : State → Prop} {D : va_G} {τ : Nat → ClassId} {ad : Nat → Nat} {A : Nat → Prop} {H0 : Heap} {M : lk_M}
theorem w_LT_die (X : lk_X pg s m args meth cd y_LT_die b_LT_die 5 (none) D τ) {q t n : Nat} (h : lk_H D lk_cl A H0 (lk_w 88 ad (lk_ce τ ad (lk_lq M (nI q) n))) H locs) (hq : q < 24) (ht : t < 4) : ∀ (r k : Nat), k + r = 4 → ∀ (ls : Array Slot), lv_has ls 5 [(4, .int (nI k)), (3, .int (lk_mask (fun u => M 11 u = 0) t k)), (0, .ref (ad 0)), (1, .ref (ad (5 + q))), (2, .ref (ad (80 + t)))] → (∀ (ls : Array Slot), lv_has ls 5 [(4, .int (nI 4)), (3, .int (lk_mask (fun u => M 11 u = 0) t 4)), (0, .ref (ad 0)), (1, .ref (ad (5 + q))), (2, .ref (ad (80 + t)))] → W pg l en R s m args below meth cd H locs cells slots Q (F0 m 57 ls [])) → W pg l en R s m args below meth cd H locs cells slots Q (F0 m 16 ls []) := by
  obtain ⟨hx, hb, -⟩ := id X
  intro r
  induction r with
  | zero =>
    intro k hk ls hl kk
    have hk : k = 4 := by omega
    subst hk
    refine lv_iload hx hb d_LT_die_16 (lv_at hl 0 rfl) ?_
    refine lv_iconst (v := nI 4) hx hb d_LT_die_18 (by decide) ?_
    refine lk_cN_ge (tgt := 57) hx hb (by omega) (by omega) d_LT_die_19 (by decide) (fun h1 => ?_) (fun h1 => ?_)
    · exact kk ls hl
    · omega
  | succ r ih =>
    intro k hk ls hl kk
    have hb11 : lk_lq M (nI q) n 11 k = M 11 k := lk_lq_11 _ _ _ _
    have hms := lk_mask_s (fun u => M 11 u = 0) t k
    refine lv_iload hx hb d_LT_die_16 (lv_at hl 0 rfl) ?_
    refine lv_iconst (v := nI 4) hx hb d_LT_die_18 (by decide) ?_
    refine lk_cN_ge (tgt := 57) hx hb (by omega) (by omega) d_LT_die_19 (by decide) (fun h1 => ?_) (fun h1 => ?_)
    · omega
    · refine lv_iload hx hb d_LT_die_22 (lv_at hl 0 rfl) ?_
      refine lv_aload_n hx hb d_LT_die_24 rfl (lv_at hl 4 rfl) ?_
      refine ct_get X h (q0 := 80 + t) (by omega) (lk_ce_t (by omega)) rfl gl_TA 0 (by decide) rfl gf_LT_223 rfl d_LT_die_25 ?_
      refine lk_cN_eq (tgt := 51) hx hb (by omega) (by omega) d_LT_die_28 (by decide) (fun h2 => ?_) (fun h2 => ?_)
      · refine lv_iinc (k := 0) (v := nI (k + 1)) hx hb d_LT_die_51 hl rfl (nI_1 _) (by decide) rfl (fun ls hl => ?_)
        have hl : lv_has ls 5 [(4, .int (nI (k + 1))), (3, .int (lk_mask (fun u => M 11 u = 0) t k)), (0, .ref (ad 0)), (1, .ref (ad (5 + q))), (2, .ref (ad (80 + t)))] := hl
        refine lv_goto (tgt := 16) hx hb d_LT_die_54 (by decide) ?_
        rw [if_neg (fun z => z.2 h2)] at hms
        rw [← hms] at hl
        exact ih (k + 1) (by omega) ls hl kk
      · refine lv_aload_n hx hb d_LT_die_31 rfl (lv_at hl 2 rfl) ?_
        refine ct_get X h (q0 := 0) (by omega) rfl rfl gl_LT 2 (by decide) rfl gf_LT_28 rfl d_LT_die_32 ?_
        refine lv_iload hx hb d_LT_die_35 (lv_at hl 0 rfl) ?_
        refine lt_taq X h (j := k) (by omega) d_LT_die_37 ?_
        refine ct_get X h (q0 := 80 + k) (by omega) (lk_ce_t (by omega)) rfl gl_TA 2 (by decide) rfl gf_LT_60 rfl d_LT_die_38 ?_
        refine lk_top (M 11 k) (hb11) ?_
        refine lv_if_ne (tgt := 51) hx hb d_LT_die_41 (by decide) (fun h3 => ?_) (fun h3 => ?_)
        · refine lv_iinc (k := 0) (v := nI (k + 1)) hx hb d_LT_die_51 hl rfl (nI_1 _) (by decide) rfl (fun ls hl => ?_)
          have hl : lv_has ls 5 [(4, .int (nI (k + 1))), (3, .int (lk_mask (fun u => M 11 u = 0) t k)), (0, .ref (ad 0)), (1, .ref (ad (5 + q))), (2, .ref (ad (80 + t)))] := hl
          refine lv_goto (tgt := 16) hx hb d_LT_die_54 (by decide) ?_
          rw [if_neg (fun z => h3 z.1)] at hms
          rw [← hms] at hl
          exact ih (k + 1) (by omega) ls hl kk
        · refine lv_iload_n hx hb d_LT_die_44 rfl (lv_at hl 1 rfl) ?_
          refine lv_iconst (v := 1) hx hb d_LT_die_45 (by decide) ?_
          refine lv_iload hx hb d_LT_die_46 (lv_at hl 0 rfl) ?_
          refine lv_ishl hx hb d_LT_die_48 ?_
          refine lv_ior hx hb d_LT_die_49 ?_
          refine lv_istore_n hx hb d_LT_die_50 rfl hl (by decide) rfl (fun ls hl => ?_)
          have hl : lv_has ls 5 [(3, .int ((lk_mask (fun u => M 11 u = 0) t k) ||| (1 <<< ((nI k) &&& 31)))), (4, .int (nI k)), (0, .ref (ad 0)), (1, .ref (ad (5 + q))), (2, .ref (ad (80 + t)))] := hl
          refine lv_iinc (k := 1) (v := nI (k + 1)) hx hb d_LT_die_51 hl rfl (nI_1 _) (by decide) rfl (fun ls hl => ?_)
          have hl : lv_has ls 5 [(4, .int (nI (k + 1))), (3, .int ((lk_mask (fun u => M 11 u = 0) t k) ||| (1 <<< ((nI k) &&& 31)))), (0, .ref (ad 0)), (1, .ref (ad (5 + q))), (2, .ref (ad (80 + t)))] := hl
          refine lv_goto (tgt := 16) hx hb d_LT_die_54 (by decide) ?_
          rw [if_pos ⟨h3, h2⟩] at hms
          rw [show lk_mask (fun u => M 11 u = 0) t k ||| (1 <<< (nI k &&& 31)) = lk_mask (fun u => M 11 u = 0) t (k + 1) from hms.symm] at hl
          exact ih (k + 1) (by omega) ls hl kk
end
set_option maxRecDepth 20000 in
theorem c_LT_die (l : Launch) (D : va_G) (τ : Nat → ClassId) (ad : Nat → Nat) (M : lk_M) (q t n : Nat) (hq : q < 24) (ht : t < 4) (hc : M 24 1 = nI n) (hn : n ≤ 12) : lk_Cv l D τ 88 ad (lk_ce τ ad) y_LT_die b_LT_die 5 1 23 [.ref (ad 0), .ref (ad (5 + q)), .ref (ad (80 + t))] M (fun M1 => M1 = cc_die M q t n) := by
  refine lk_openv (by decide +kernel) (Nat.le_of_ble_eq_true rfl) ?_
  intro pg en s m args below meth cd ls A X h hA hl
  obtain ⟨hx, hb, -⟩ := id X
  have hl : lv_has ls 5 [(0, .ref (ad 0)), (1, .ref (ad (5 + q))), (2, .ref (ad (80 + t)))] := hl
  refine lv_aload_n hx hb d_LT_die_0 rfl (lv_at hl 0 rfl) ?_
  refine ct_get X h (q0 := 0) (by omega) rfl rfl gl_LT 3 (by decide) rfl gf_LT_36 rfl d_LT_die_1 ?_
  refine lv_aload_n hx hb d_LT_die_4 rfl (lv_at hl 1 rfl) ?_
  refine ct_get X h (q0 := 5 + q) (by omega) (lk_ce_n (by omega)) rfl gl_ND 0 (by decide) rfl gf_LT_198 rfl d_LT_die_5 ?_
  refine lk_top (nI q) (lk_num_lt (by omega)) ?_
  refine lk_gov (lk_runV (As := [.int (nI q)]) (C := R_SP) X h (c_SP_drop l D τ ad M n hc hn (nI q)) ⟨gc_SP_drop, gm_LT_279, gn_SP, gd_SP_drop, by decide, by decide⟩ gi_SP_drop gs_SP_drop ⟨3, 3, _, _, _, lk_w_get (by decide), rfl⟩ rfl hl.1 (Nat.le_of_ble_eq_true rfl) d_LT_die_8 ⟨Nat.zero_le _, Nat.zero_le _⟩) h hA (fun σ8 H locs hk9 h => ?_)
  rw [hk9] at h
  refine lv_iconst (v := 0) hx hb d_LT_die_11 (by decide) ?_
  refine lv_istore_n hx hb d_LT_die_12 rfl hl (by decide) rfl (fun ls hl => ?_)
  have hl : lv_has ls 5 [(3, .int 0), (0, .ref (ad 0)), (1, .ref (ad (5 + q))), (2, .ref (ad (80 + t)))] := hl
  refine lv_iconst (v := nI 0) hx hb d_LT_die_13 (by decide) ?_
  refine lv_istore hx hb d_LT_die_14 hl (by decide) rfl (fun ls hl => ?_)
  have hl : lv_has ls 5 [(4, .int (nI 0)), (3, .int 0), (0, .ref (ad 0)), (1, .ref (ad (5 + q))), (2, .ref (ad (80 + t)))] := hl
  refine w_LT_die X h hq ht 4 0 (by omega) ls hl (fun ls hl => ?_)
  refine lv_aload_n hx hb d_LT_die_57 rfl (lv_at hl 3 rfl) ?_
  refine lv_iload_n hx hb d_LT_die_58 rfl (lv_at hl 1 rfl) ?_
  refine lk_gov (lk_runV (As := [.int (lk_mask (fun u => M 11 u = 0) t 4)]) (C := R_ND) X h (c_ND_dieUntil l D τ ad _ q (by omega) _) ⟨gc_ND_dieUntil, gm_LT_282, gn_ND, gd_ND_dieUntil, by decide, by decide⟩ gi_ND_dieUntil gs_ND_dieUntil ⟨5 + q, 1, _, _, _, by rw [lk_w_get (by omega), lk_ce_n (by omega)], rfl⟩ rfl hl.1 (Nat.le_of_ble_eq_true rfl) d_LT_die_59 ⟨Nat.zero_le _, Nat.zero_le _⟩) h hA (fun σ59 H locs hk9 h => ?_)
  rw [hk9] at h
  exact lk_retv X h d_LT_die_62 (rfl)
def cc_choose (M : lk_M) (t nq rt x : Nat) : lk_M := if nq = 0 then lk_st (lk_st M 18 t (-1)) 15 t 0 else if x = rt then lk_st (lk_st (lk_lq M (nI x) nq) 18 t (-1)) 15 t 0 else lk_st (lk_st (lk_st (lk_lq M (nI x) nq) 18 t (nI x)) 15 t (M 3 x)) 16 t (M 1 x + 1)
set_option maxRecDepth 20000 in
theorem c_LT_chooseSmallPage (l : Launch) (D : va_G) (τ : Nat → ClassId) (ad : Nat → Nat) (M : lk_M) (t nq rt x : Nat) (ht : t < 4) (hnq : nq ≤ 12) (hq0 : M 24 1 = nI nq) (hrt : rt < 24) (hr0 : M 24 0 = nI rt) (hx0 : 0 < nq → x < 24 ∧ M 10 0 = nI x) : lk_Cv l D τ 88 ad (lk_ce τ ad) y_LT_chooseSmallPage b_LT_chooseSmallPage 4 2 44 [.ref (ad 0), .ref (ad (80 + t))] M (fun M1 => M1 = cc_choose M t nq rt x) := by
  refine lk_openv (by decide +kernel) (Nat.le_of_ble_eq_true rfl) ?_
  intro pg en s m args below meth cd ls A X h hA hl
  obtain ⟨hx, hb, -⟩ := id X
  have hl : lv_has ls 4 [(0, .ref (ad 0)), (1, .ref (ad (80 + t)))] := hl
  refine lv_aload_n hx hb d_LT_chooseSmallPage_0 rfl (lv_at hl 0 rfl) ?_
  refine ct_get X h (q0 := 0) (by omega) rfl rfl gl_LT 3 (by decide) rfl gf_LT_36 rfl d_LT_chooseSmallPage_1 ?_
  refine lk_goi (lk_runV (As := []) (C := R_SP) X h (c_SP_takeFirst l D τ ad M nq hq0 hnq) ⟨gc_SP_takeFirst, gm_LT_168, gn_SP, gd_SP_takeFirst, by decide, by decide⟩ gi_SP_takeFirst gs_SP_takeFirst ⟨3, 3, _, _, _, lk_w_get (by decide), rfl⟩ rfl hl.1 (Nat.le_of_ble_eq_true rfl) d_LT_chooseSmallPage_4 ⟨Nat.zero_le _, Nat.zero_le _⟩) h hA (fun r4 σ4 H locs hk9 h => ?_)
  by_cases hz : nq = 0
  · obtain ⟨e1, e2⟩ := hk9.1 hz
    rw [e2] at h
    rw [e1]
    refine lv_istore_n hx hb d_LT_chooseSmallPage_7 rfl hl (by decide) rfl (fun ls hl => ?_)
    have hl : lv_has ls 4 [(2, .int (-1)), (0, .ref (ad 0)), (1, .ref (ad (80 + t)))] := hl
    refine lv_iload_n hx hb d_LT_chooseSmallPage_8 rfl (lv_at hl 0 rfl) ?_
    refine lv_iconst (v := (-1)) hx hb d_LT_chooseSmallPage_9 (by decide) ?_
    refine lv_icmp_eq (tgt := 21) hx hb d_LT_chooseSmallPage_10 (by decide) (fun _ => ?_) (fun z => absurd z (by decide))
    refine lv_aload_n hx hb d_LT_chooseSmallPage_21 rfl (lv_at hl 2 rfl) ?_
    refine lv_iconst (v := (-1)) hx hb d_LT_chooseSmallPage_22 (by decide) ?_
    refine ta_put9 X h (t := t) (by omega) gf_LT_172 d_LT_chooseSmallPage_23 (fun H locs h => ?_)
    refine lv_aload_n hx hb d_LT_chooseSmallPage_26 rfl (lv_at hl 2 rfl) ?_
    refine lv_iconst (v := 0) hx hb d_LT_chooseSmallPage_27 (by decide) ?_
    refine ta_put6 X h (t := t) (by omega) gf_LT_72 d_LT_chooseSmallPage_28 (fun H locs h => ?_)
    exact lk_retv X h d_LT_chooseSmallPage_31 (by rw [cc_choose, if_pos hz])
  · obtain ⟨hx1, hx2⟩ := hx0 (by omega)
    obtain ⟨e1, e2⟩ := hk9.2 hz
    rw [e2, hx2] at h
    rw [e1, hx2]
    refine lv_istore_n hx hb d_LT_chooseSmallPage_7 rfl hl (by decide) rfl (fun ls hl => ?_)
    have hl : lv_has ls 4 [(2, .int (nI x)), (0, .ref (ad 0)), (1, .ref (ad (80 + t)))] := hl
    refine lv_iload_n hx hb d_LT_chooseSmallPage_8 rfl (lv_at hl 0 rfl) ?_
    refine lv_iconst (v := (-1)) hx hb d_LT_chooseSmallPage_9 (by decide) ?_
    refine lv_icmp_eq (tgt := 21) hx hb d_LT_chooseSmallPage_10 (by decide) (fun h1 => ?_) (fun h1 => ?_)
    · exact absurd h1 (lk_nI_m1 (by omega))
    · refine lv_iload_n hx hb d_LT_chooseSmallPage_13 rfl (lv_at hl 0 rfl) ?_
      refine lv_aload_n hx hb d_LT_chooseSmallPage_14 rfl (lv_at hl 1 rfl) ?_
      refine ct_get X h (q0 := 0) (by omega) rfl rfl gl_LT 4 (by decide) rfl gf_LT_40 rfl d_LT_chooseSmallPage_15 ?_
      refine lk_top (nI rt) (lk_lq_r.trans hr0) ?_
      refine lk_cN_ne (tgt := 32) hx hb (by omega) (by omega) d_LT_chooseSmallPage_18 (by decide) (fun h2 => ?_) (fun h2 => ?_)
      · refine lv_aload_n hx hb d_LT_chooseSmallPage_32 rfl (lv_at hl 1 rfl) ?_
        refine lv_iload_n hx hb d_LT_chooseSmallPage_33 rfl (lv_at hl 0 rfl) ?_
        refine lk_goq (lk_runV (As := [.int (nI x)]) (C := R_LT) X h (c_LT_nodeAt l D τ ad _ x hx1) ⟨gc_LT_nodeAt, gm_LT_148, gn_LT, gd_LT_nodeAt, by decide, by decide⟩ gi_LT_nodeAt gs_LT_nodeAt ⟨0, 0, _, _, _, lk_w_get (by decide), rfl⟩ rfl hl.1 (Nat.le_of_ble_eq_true rfl) d_LT_chooseSmallPage_34 ⟨Nat.zero_le _, Nat.zero_le _⟩) h hA (fun r34 σ34 H locs hk9 h => ?_)
        rw [hk9.2] at h
        rw [hk9.1, show va_rf (some (ad (5 + x))) = .ref (ad (5 + x)) from rfl]
        refine lv_astore_n hx hb d_LT_chooseSmallPage_37 rfl hl (by decide) rfl (fun ls hl => ?_)
        have hl : lv_has ls 4 [(3, .ref (ad (5 + x))), (2, .int (nI x)), (0, .ref (ad 0)), (1, .ref (ad (80 + t)))] := hl
        refine lv_aload_n hx hb d_LT_chooseSmallPage_38 rfl (lv_at hl 3 rfl) ?_
        refine lv_iload_n hx hb d_LT_chooseSmallPage_39 rfl (lv_at hl 1 rfl) ?_
        refine ta_put9 X h (t := t) (by omega) gf_LT_172 d_LT_chooseSmallPage_40 (fun H locs h => ?_)
        refine lv_aload_n hx hb d_LT_chooseSmallPage_43 rfl (lv_at hl 3 rfl) ?_
        refine lv_aload_n hx hb d_LT_chooseSmallPage_44 rfl (lv_at hl 0 rfl) ?_
        refine ct_get X h (q0 := 5 + x) (by omega) (lk_ce_n (by omega)) rfl gl_ND 7 (by decide) rfl gf_LT_136 rfl d_LT_chooseSmallPage_45 ?_
        refine lk_top (M 3 x) ((lk_st_f (by decide)).trans (lk_lq_f (by decide) (by decide))) ?_
        refine ta_put6 X h (t := t) (by omega) gf_LT_72 d_LT_chooseSmallPage_48 (fun H locs h => ?_)
        refine lv_aload_n hx hb d_LT_chooseSmallPage_51 rfl (lv_at hl 3 rfl) ?_
        refine lv_aload_n hx hb d_LT_chooseSmallPage_52 rfl (lv_at hl 0 rfl) ?_
        refine ct_get X h (q0 := 5 + x) (by omega) (lk_ce_n (by omega)) rfl gl_ND 5 (by decide) rfl gf_LT_132 rfl d_LT_chooseSmallPage_53 ?_
        refine lk_top (M 1 x) ((lk_st_f (by decide)).trans ((lk_st_f (by decide)).trans (lk_lq_f (by decide) (by decide)))) ?_
        refine lv_iconst (v := 1) hx hb d_LT_chooseSmallPage_56 (by decide) ?_
        refine lv_iadd hx hb d_LT_chooseSmallPage_57 ?_
        refine ta_put8 X h (t := t) (by omega) gf_LT_78 d_LT_chooseSmallPage_58 (fun H locs h => ?_)
        exact lk_retv X h d_LT_chooseSmallPage_61 (by rw [cc_choose, if_neg hz, if_neg h2])
      · refine lv_aload_n hx hb d_LT_chooseSmallPage_21 rfl (lv_at hl 2 rfl) ?_
        refine lv_iconst (v := (-1)) hx hb d_LT_chooseSmallPage_22 (by decide) ?_
        refine ta_put9 X h (t := t) (by omega) gf_LT_172 d_LT_chooseSmallPage_23 (fun H locs h => ?_)
        refine lv_aload_n hx hb d_LT_chooseSmallPage_26 rfl (lv_at hl 2 rfl) ?_
        refine lv_iconst (v := 0) hx hb d_LT_chooseSmallPage_27 (by decide) ?_
        refine ta_put6 X h (t := t) (by omega) gf_LT_72 d_LT_chooseSmallPage_28 (fun H locs h => ?_)
        exact lk_retv X h d_LT_chooseSmallPage_31 (by rw [cc_choose, if_neg hz, if_pos h2])
