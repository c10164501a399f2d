set_option maxRecDepth 20000 in
theorem c_ND_become (l : Launch) (D : va_G) (τ : Nat → ClassId) (ad : Nat → Nat) (M : lk_M) (q : Nat) (hq : q < 25) (x lo hi r : Int32) : lk_Cv l D τ 88 ad (lk_ce τ ad) y_ND_become b_ND_become 5 0 0 [.ref (ad (5 + q)), .int x, .int lo, .int hi, .int r] M (fun M1 => M1 = lk_mk M q x lo hi r) := by
  refine lk_openv (by decide +kernel) (Nat.le_of_ble_eq_true rfl) ?_
  intro pg en s m args below meth cd ls A X h hA hl
  obtain ⟨hx, hb, -⟩ := id X
  have hl : lv_has ls 5 [(0, .ref (ad (5 + q))), (1, .int x), (2, .int lo), (3, .int hi), (4, .int r)] := hl
  refine lv_aload_n hx hb d_ND_become_0 rfl (lv_at hl 0 rfl) ?_
  refine lv_iconst (v := 1) hx hb d_ND_become_1 (by decide) ?_
  refine nd_put4 X h (q := q) (by omega) gf_ND_18 d_ND_become_2 (fun H locs h => ?_)
  refine lv_aload_n hx hb d_ND_become_5 rfl (lv_at hl 0 rfl) ?_
  refine lv_iload_n hx hb d_ND_become_6 rfl (lv_at hl 1 rfl) ?_
  refine nd_put5 X h (q := q) (by omega) gf_ND_31 d_ND_become_7 (fun H locs h => ?_)
  refine lv_aload_n hx hb d_ND_become_10 rfl (lv_at hl 0 rfl) ?_
  refine lv_iload_n hx hb d_ND_become_11 rfl (lv_at hl 2 rfl) ?_
  refine nd_put6 X h (q := q) (by omega) gf_ND_34 d_ND_become_12 (fun H locs h => ?_)
  refine lv_aload_n hx hb d_ND_become_15 rfl (lv_at hl 0 rfl) ?_
  refine lv_iload_n hx hb d_ND_become_16 rfl (lv_at hl 3 rfl) ?_
  refine nd_put7 X h (q := q) (by omega) gf_ND_37 d_ND_become_17 (fun H locs h => ?_)
  refine lv_aload_n hx hb d_ND_become_20 rfl (lv_at hl 0 rfl) ?_
  refine lv_iload hx hb d_ND_become_21 (lv_at hl 4 rfl) ?_
  refine nd_put8 X h (q := q) (by omega) gf_ND_22 d_ND_become_23 (fun H locs h => ?_)
  refine lv_aload_n hx hb d_ND_become_26 rfl (lv_at hl 0 rfl) ?_
  refine lv_iconst (v := 0) hx hb d_ND_become_27 (by decide) ?_
  refine nd_put3 X h (q := q) (by omega) gf_ND_40 d_ND_become_28 (fun H locs h => ?_)
  refine lv_aload_n hx hb d_ND_become_31 rfl (lv_at hl 0 rfl) ?_
  refine lv_iconst (v := (-1)) hx hb d_ND_become_32 (by decide) ?_
  refine nd_put9 X h (q := q) (by omega) gf_ND_25 d_ND_become_33 (fun H locs h => ?_)
  exact lk_retv X h d_ND_become_36 (rfl)
def lk_wrong (σ : lk_M) (q : Nat) (k : Int32) : Prop := σ 0 q ≠ 1 ∨ k ≤ σ 2 q
set_option maxRecDepth 20000 in
theorem c_ND_isWrongFor (l : Launch) (D : va_G) (τ : Nat → ClassId) (ad : Nat → Nat) (M : lk_M) (q : Nat) (hq : q < 25) (k : Int32) : lk_Ci l D τ 88 ad (lk_ce τ ad) y_ND_isWrongFor b_ND_isWrongFor 2 (.boolean) 0 0 [.ref (ad (5 + q)), .int k] M (fun r M1 => (r = 1 ∧ lk_wrong M q k ∨ r = 0 ∧ ¬ lk_wrong M q k) ∧ M1 = M) := by
  refine lk_openi (by decide +kernel) (Nat.le_of_ble_eq_true rfl) ?_
  intro pg en s m args below meth cd ls A X h hA hl
  obtain ⟨hx, hb, -⟩ := id X
  have hl : lv_has ls 2 [(0, .ref (ad (5 + q))), (1, .int k)] := hl
  refine lv_aload_n hx hb d_ND_isWrongFor_0 rfl (lv_at hl 0 rfl) ?_
  refine ct_get X h (q0 := 5 + q) (by omega) (lk_ce_n (by omega)) rfl gl_ND 4 (by decide) rfl gf_ND_18 rfl d_ND_isWrongFor_1 ?_
  refine lv_iconst (v := 1) hx hb d_ND_isWrongFor_4 (by decide) ?_
  refine lv_icmp_ne (tgt := 16) hx hb d_ND_isWrongFor_5 (by decide) (fun h1 => ?_) (fun h1 => ?_)
  · refine lv_iconst (v := 1) hx hb d_ND_isWrongFor_16 (by decide) ?_
    refine lv_goto (tgt := 21) hx hb d_ND_isWrongFor_17 (by decide) ?_
    exact lk_retz X h d_ND_isWrongFor_21 (by decide) (⟨Or.inl ⟨rfl, Or.inl h1⟩, rfl⟩)
  · refine lv_aload_n hx hb d_ND_isWrongFor_8 rfl (lv_at hl 0 rfl) ?_
    refine ct_get X h (q0 := 5 + q) (by omega) (lk_ce_n (by omega)) rfl gl_ND 6 (by decide) rfl gf_ND_34 rfl d_ND_isWrongFor_9 ?_
    refine lv_iload_n hx hb d_ND_isWrongFor_12 rfl (lv_at hl 1 rfl) ?_
    refine lv_icmp_lt (tgt := 20) hx hb d_ND_isWrongFor_13 (by decide) (fun h2 => ?_) (fun h2 => ?_)
    · refine lv_iconst (v := 0) hx hb d_ND_isWrongFor_20 (by decide) ?_
      exact lk_retz X h d_ND_isWrongFor_21 (by decide) (⟨Or.inr ⟨rfl, fun z => z.elim (fun q => q h1) (fun q => absurd h2 (Int32.not_lt.mpr q))⟩, rfl⟩)
    · refine lv_iconst (v := 1) hx hb d_ND_isWrongFor_16 (by decide) ?_
      refine lv_goto (tgt := 21) hx hb d_ND_isWrongFor_17 (by decide) ?_
      exact lk_retz X h d_ND_isWrongFor_21 (by decide) (⟨Or.inl ⟨rfl, Or.inr (Int32.not_lt.mp h2)⟩, rfl⟩)
section
variable {pg : Program} {l : Launch} {en : Env} {R : Room} {s : State} {m : MethodId} {args : Array Value} {below : List Frame} {meth : Method} {cd : Code} {H : Heap} {locs : List Loc} {cells slots : Nat} {Q : State → Prop} {D : va_G} {τ : Nat → ClassId} {ad : Nat → Nat} {A : Nat → Prop} {H0 : Heap} {M : lk_M}
theorem w_ND_firstNotBelow (X : lk_X pg s m args meth cd y_ND_firstNotBelow b_ND_firstNotBelow 3 (some (.int)) D τ) (h : lk_H D lk_cl A H0 (lk_w 88 ad (lk_ce τ ad M)) H locs) {q n : Nat} {k : Int32} (hq : q < 25) (hc : M 5 q = nI n) (hn : n ≤ 5) : ∀ (r i : Nat), i + r = n → ∀ ls : Array Slot, lv_has ls 3 [(2, .int (nI i)), (0, .ref (ad (5 + q))), (1, .int k)] → (∀ ls : Array Slot, lv_has ls 3 [(2, .int (nI (i + lk_fr (M 7) k r (5 * q + i)))), (0, .ref (ad (5 + q))), (1, .int k)] → W pg l en R s m args below meth cd H locs cells slots Q (F0 m 26 ls [])) → W pg l en R s m args below meth cd H locs cells slots Q (F0 m 2 ls []) := by
  obtain ⟨hx, hb, -⟩ := id X
  intro r
  induction r with
  | zero =>
    intro i hi ls hl kk
    have hi : i = n := by omega
    subst hi
    refine lv_iload_n hx hb d_ND_firstNotBelow_2 rfl (lv_at hl 0 rfl) ?_
    refine lv_aload_n hx hb d_ND_firstNotBelow_3 rfl (lv_at hl 1 rfl) ?_
    refine ct_get X h (q0 := 5 + q) (by omega) (lk_ce_n (by omega)) rfl gl_ND 3 (by decide) rfl gf_ND_40 rfl d_ND_firstNotBelow_4 ?_
    refine lk_top (nI i) (hc) ?_
    refine lk_cN_ge (tgt := 26) hx hb (by omega) (by omega) d_ND_firstNotBelow_7 (by decide) (fun h1 => ?_) (fun h1 => ?_)
    · exact kk ls hl
    · omega
  | succ r ih =>
    intro i hi ls hl kk
    have e0 : lk_fr (M 7) k (r + 1) (5 * q + i) = if M 7 (5 * q + i) < k then lk_fr (M 7) k r (5 * q + i + 1) + 1 else 0 := rfl
    refine lv_iload_n hx hb d_ND_firstNotBelow_2 rfl (lv_at hl 0 rfl) ?_
    refine lv_aload_n hx hb d_ND_firstNotBelow_3 rfl (lv_at hl 1 rfl) ?_
    refine ct_get X h (q0 := 5 + q) (by omega) (lk_ce_n (by omega)) rfl gl_ND 3 (by decide) rfl gf_ND_40 rfl d_ND_firstNotBelow_4 ?_
    refine lk_top (nI n) (hc) ?_
    refine lk_cN_ge (tgt := 26) hx hb (by omega) (by omega) d_ND_firstNotBelow_7 (by decide) (fun h1 => ?_) (fun h1 => ?_)
    · omega
    · refine lv_aload_n hx hb d_ND_firstNotBelow_10 rfl (lv_at hl 1 rfl) ?_
      refine ct_get X h (q0 := 5 + q) (by omega) (lk_ce_n (by omega)) rfl gl_ND 1 (by decide) rfl gf_ND_9 rfl d_ND_firstNotBelow_11 ?_
      refine lv_iload_n hx hb d_ND_firstNotBelow_14 rfl (lv_at hl 0 rfl) ?_
      refine nd_ald7 X h (q := q) (j := i) (by omega) (by omega) d_ND_firstNotBelow_15 ?_
      refine lv_iload_n hx hb d_ND_firstNotBelow_16 rfl (lv_at hl 2 rfl) ?_
      refine lv_icmp_ge (tgt := 26) hx hb d_ND_firstNotBelow_17 (by decide) (fun h2 => ?_) (fun h2 => ?_)
      · have e1 : i + lk_fr (M 7) k (r + 1) (5 * q + i) = i := by rw [e0, if_neg (Int32.not_lt.mpr h2)]; rfl
        rw [e1] at kk
        exact kk ls hl
      · refine lv_iinc (k := 0) (v := nI (i + 1)) hx hb d_ND_firstNotBelow_20 hl rfl (nI_1 _) (by decide) rfl (fun ls hl => ?_)
        have hl : lv_has ls 3 [(2, .int (nI (i + 1))), (0, .ref (ad (5 + q))), (1, .int k)] := hl
        refine lv_goto (tgt := 2) hx hb d_ND_firstNotBelow_23 (by decide) ?_
        refine ih (i + 1) (by omega) ls hl (fun ls hl => kk ls ?_)
        have e1 : i + lk_fr (M 7) k (r + 1) (5 * q + i) = i + 1 + lk_fr (M 7) k r (5 * q + (i + 1)) := by rw [e0, if_pos (Int32.not_le.mp h2), show 5 * q + (i + 1) = 5 * q + i + 1 by omega]; omega
        rw [e1]
        exact hl
end
set_option maxRecDepth 20000 in
theorem c_ND_firstNotBelow (l : Launch) (D : va_G) (τ : Nat → ClassId) (ad : Nat → Nat) (M : lk_M) (q n : Nat) (hq : q < 25) (hc : M 5 q = nI n) (hn : n ≤ 5) (k : Int32) : lk_Ci l D τ 88 ad (lk_ce τ ad) y_ND_firstNotBelow b_ND_firstNotBelow 3 (.int) 0 0 [.ref (ad (5 + q)), .int k] M (fun r M1 => r = nI (lk_at M q n k) ∧ M1 = M) := by
  refine lk_openi (by decide +kernel) (Nat.le_of_ble_eq_true rfl) ?_
  intro pg en s m args below meth cd ls A X h hA hl
  obtain ⟨hx, hb, -⟩ := id X
  have hl : lv_has ls 3 [(0, .ref (ad (5 + q))), (1, .int k)] := hl
  refine lv_iconst (v := nI 0) hx hb d_ND_firstNotBelow_0 (by decide) ?_
  refine lv_istore_n hx hb d_ND_firstNotBelow_1 rfl hl (by decide) rfl (fun ls hl => ?_)
  have hl : lv_has ls 3 [(2, .int (nI 0)), (0, .ref (ad (5 + q))), (1, .int k)] := hl
  refine w_ND_firstNotBelow X h hq hc hn n 0 (by omega) ls hl (fun ls hl => ?_)
  refine lv_iload_n hx hb d_ND_firstNotBelow_26 rfl (lv_at hl 0 rfl) ?_
  rw [Nat.zero_add, Nat.add_zero]
  exact lk_reti X h d_ND_firstNotBelow_27 (⟨rfl, rfl⟩)
set_option maxRecDepth 20000 in
theorem c_ND_hasKeyAt (l : Launch) (D : va_G) (τ : Nat → ClassId) (ad : Nat → Nat) (M : lk_M) (q n i : Nat) (hq : q < 25) (hc : M 5 q = nI n) (hn : n ≤ 5) (hi : i ≤ n) (k : Int32) : lk_Ci l D τ 88 ad (lk_ce τ ad) y_ND_hasKeyAt b_ND_hasKeyAt 3 (.boolean) 0 0 [.ref (ad (5 + q)), .int (nI i), .int k] M (fun r M1 => (r = 1 ∧ (i < n ∧ M 7 (5 * q + i) = k) ∨ r = 0 ∧ ¬ (i < n ∧ M 7 (5 * q + i) = k)) ∧ M1 = M) := by
  refine lk_openi (by decide +kernel) (Nat.le_of_ble_eq_true rfl) ?_
  intro pg en s m args below meth cd ls A X h hA hl
  obtain ⟨hx, hb, -⟩ := id X
  have hl : lv_has ls 3 [(0, .ref (ad (5 + q))), (1, .int (nI i)), (2, .int k)] := hl
  refine lv_iload_n hx hb d_ND_hasKeyAt_0 rfl (lv_at hl 1 rfl) ?_
  refine lv_aload_n hx hb d_ND_hasKeyAt_1 rfl (lv_at hl 0 rfl) ?_
  refine ct_get X h (q0 := 5 + q) (by omega) (lk_ce_n (by omega)) rfl gl_ND 3 (by decide) rfl gf_ND_40 rfl d_ND_hasKeyAt_2 ?_
  refine lk_top (nI n) (hc) ?_
  refine lk_cN_ge (tgt := 22) hx hb (by omega) (by omega) d_ND_hasKeyAt_5 (by decide) (fun h1 => ?_) (fun h1 => ?_)
  · refine lv_iconst (v := 0) hx hb d_ND_hasKeyAt_22 (by decide) ?_
    exact lk_retz X h d_ND_hasKeyAt_23 (by decide) (⟨Or.inr ⟨rfl, fun z => absurd z.1 (by omega)⟩, rfl⟩)
  · refine lv_aload_n hx hb d_ND_hasKeyAt_8 rfl (lv_at hl 0 rfl) ?_
    refine ct_get X h (q0 := 5 + q) (by omega) (lk_ce_n (by omega)) rfl gl_ND 1 (by decide) rfl gf_ND_9 rfl d_ND_hasKeyAt_9 ?_
    refine lv_iload_n hx hb d_ND_hasKeyAt_12 rfl (lv_at hl 1 rfl) ?_
    refine nd_ald7 X h (q := q) (j := i) (by omega) (by omega) d_ND_hasKeyAt_13 ?_
    refine lv_iload_n hx hb d_ND_hasKeyAt_14 rfl (lv_at hl 2 rfl) ?_
    refine lv_icmp_ne (tgt := 22) hx hb d_ND_hasKeyAt_15 (by decide) (fun h2 => ?_) (fun h2 => ?_)
    · refine lv_iconst (v := 0) hx hb d_ND_hasKeyAt_22 (by decide) ?_
      exact lk_retz X h d_ND_hasKeyAt_23 (by decide) (⟨Or.inr ⟨rfl, fun z => h2 z.2⟩, rfl⟩)
    · refine lv_iconst (v := 1) hx hb d_ND_hasKeyAt_18 (by decide) ?_
      refine lv_goto (tgt := 23) hx hb d_ND_hasKeyAt_19 (by decide) ?_
      exact lk_retz X h d_ND_hasKeyAt_23 (by decide) (⟨Or.inl ⟨rfl, h1, h2⟩, rfl⟩)
set_option maxRecDepth 20000 in
theorem c_ND_valueOf (l : Launch) (D : va_G) (τ : Nat → ClassId) (ad : Nat → Nat) (M : lk_M) (q n : Nat) (hq : q < 25) (hc : M 5 q = nI n) (hn : n ≤ 5) (k : Int32) : lk_Ci l D τ 88 ad (lk_ce τ ad) y_ND_valueOf b_ND_valueOf 3 (.int) 1 22 [.ref (ad (5 + q)), .int k] M (fun r M1 => (r = @ite _ (lk_hk M q n k) (Classical.propDecidable _) (M 8 (5 * q + lk_at M q n k)) (-1)) ∧ M1 = M) := by
  refine lk_openi (by decide +kernel) (Nat.le_of_ble_eq_true rfl) ?_
  intro pg en s m args below meth cd ls A X h hA hl
  obtain ⟨hx, hb, -⟩ := id X
  have hl : lv_has ls 3 [(0, .ref (ad (5 + q))), (1, .int k)] := hl
  have hle := lk_at_le M q n k
  refine lv_aload_n hx hb d_ND_valueOf_0 rfl (lv_at hl 0 rfl) ?_
  refine lv_iload_n hx hb d_ND_valueOf_1 rfl (lv_at hl 1 rfl) ?_
  refine lk_goi (lk_runV (As := [.int k]) (C := R_ND) X h (c_ND_firstNotBelow l D τ ad M q n hq hc hn k) ⟨gc_ND_firstNotBelow, gm_ND_43, gn_ND, gd_ND_firstNotBelow, by decide, by decide⟩ gi_ND_firstNotBelow gs_ND_firstNotBelow ⟨5 + q, 1, _, _, _, by rw [lk_w_get (by omega), lk_ce_n (by omega)], rfl⟩ rfl hl.1 (Nat.le_of_ble_eq_true rfl) d_ND_valueOf_2 ⟨Nat.zero_le _, Nat.zero_le _⟩) h hA (fun r2 σ2 H locs hk9 h => ?_)
  rw [hk9.2] at h
  rw [hk9.1]
  refine lv_istore_n hx hb d_ND_valueOf_5 rfl hl (by decide) rfl (fun ls hl => ?_)
  have hl : lv_has ls 3 [(2, .int (nI (lk_at M q n k))), (0, .ref (ad (5 + q))), (1, .int k)] := hl
  refine lv_aload_n hx hb d_ND_valueOf_6 rfl (lv_at hl 1 rfl) ?_
  refine lv_iload_n hx hb d_ND_valueOf_7 rfl (lv_at hl 0 rfl) ?_
  refine lv_iload_n hx hb d_ND_valueOf_8 rfl (lv_at hl 2 rfl) ?_
  refine lk_goi (lk_runV (As := [.int (nI (lk_at M q n k)), .int k]) (C := R_ND) X h (c_ND_hasKeyAt l D τ ad M q n (lk_at M q n k) hq hc hn hle k) ⟨gc_ND_hasKeyAt, gm_ND_47, gn_ND, gd_ND_hasKeyAt, by decide, by decide⟩ gi_ND_hasKeyAt gs_ND_hasKeyAt ⟨5 + q, 1, _, _, _, by rw [lk_w_get (by omega), lk_ce_n (by omega)], rfl⟩ rfl hl.1 (Nat.le_of_ble_eq_true rfl) d_ND_valueOf_9 ⟨Nat.zero_le _, Nat.zero_le _⟩) h hA (fun r9 σ9 H locs hk9 h => ?_)
  obtain ⟨hk9, hm9⟩ := hk9
  rw [hm9] at h
  rcases hk9 with ⟨e9, hT12⟩ | ⟨e9, hT12⟩
  · rw [e9]
    refine lv_if_eq (tgt := 24) hx hb d_ND_valueOf_12 (by decide) (fun z => absurd z (by decide)) (fun _ => ?_)
    have hlt := hT12.1
    refine lv_aload_n hx hb d_ND_valueOf_15 rfl (lv_at hl 1 rfl) ?_
    refine ct_get X h (q0 := 5 + q) (by omega) (lk_ce_n (by omega)) rfl gl_ND 2 (by decide) rfl gf_ND_15 rfl d_ND_valueOf_16 ?_
    refine lv_iload_n hx hb d_ND_valueOf_19 rfl (lv_at hl 0 rfl) ?_
    refine nd_ald8 X h (q := q) (j := lk_at M q n k) (by omega) (by omega) d_ND_valueOf_20 ?_
    refine lv_goto (tgt := 25) hx hb d_ND_valueOf_21 (by decide) ?_
    exact lk_reti X h d_ND_valueOf_25 (⟨(if_pos hT12).symm, rfl⟩)
  · rw [e9]
    refine lv_if_eq (tgt := 24) hx hb d_ND_valueOf_12 (by decide) (fun _ => ?_) (fun z => absurd z (by decide))
    refine lv_iconst (v := (-1)) hx hb d_ND_valueOf_24 (by decide) ?_
    exact lk_reti X h d_ND_valueOf_25 (⟨(if_neg hT12).symm, rfl⟩)
set_option maxRecDepth 20000 in
theorem c_ND_childFor (l : Launch) (D : va_G) (τ : Nat → ClassId) (ad : Nat → Nat) (M : lk_M) (q n : Nat) (hq : q < 25) (hc : M 5 q = nI n) (hn : n ≤ 5) (k : Int32) : lk_Ci l D τ 88 ad (lk_ce τ ad) y_ND_childFor b_ND_childFor 3 (.int) 1 22 [.ref (ad (5 + q)), .int k] M (fun r M1 => (r = if lk_at M q n k < n then M 8 (5 * q + lk_at M q n k) else -1) ∧ M1 = M) := by
  refine lk_openi (by decide +kernel) (Nat.le_of_ble_eq_true rfl) ?_
  intro pg en s m args below meth cd ls A X h hA hl
  obtain ⟨hx, hb, -⟩ := id X
  have hl : lv_has ls 3 [(0, .ref (ad (5 + q))), (1, .int k)] := hl
  have hle := lk_at_le M q n k
  refine lv_aload_n hx hb d_ND_childFor_0 rfl (lv_at hl 0 rfl) ?_
  refine lv_iload_n hx hb d_ND_childFor_1 rfl (lv_at hl 1 rfl) ?_
  refine lk_goi (lk_runV (As := [.int k]) (C := R_ND) X h (c_ND_firstNotBelow l D τ ad M q n hq hc hn k) ⟨gc_ND_firstNotBelow, gm_ND_43, gn_ND, gd_ND_firstNotBelow, by decide, by decide⟩ gi_ND_firstNotBelow gs_ND_firstNotBelow ⟨5 + q, 1, _, _, _, by rw [lk_w_get (by omega), lk_ce_n (by omega)], rfl⟩ rfl hl.1 (Nat.le_of_ble_eq_true rfl) d_ND_childFor_2 ⟨Nat.zero_le _, Nat.zero_le _⟩) h hA (fun r2 σ2 H locs hk9 h => ?_)
  rw [hk9.2] at h
  rw [hk9.1]
  refine lv_istore_n hx hb d_ND_childFor_5 rfl hl (by decide) rfl (fun ls hl => ?_)
  have hl : lv_has ls 3 [(2, .int (nI (lk_at M q n k))), (0, .ref (ad (5 + q))), (1, .int k)] := hl
  refine lv_iload_n hx hb d_ND_childFor_6 rfl (lv_at hl 0 rfl) ?_
  refine lv_aload_n hx hb d_ND_childFor_7 rfl (lv_at hl 1 rfl) ?_
  refine ct_get X h (q0 := 5 + q) (by omega) (lk_ce_n (by omega)) rfl gl_ND 3 (by decide) rfl gf_ND_40 rfl d_ND_childFor_8 ?_
  refine lk_top (nI n) (hc) ?_
  refine lk_cN_ge (tgt := 23) hx hb (by omega) (by omega) d_ND_childFor_11 (by decide) (fun h1 => ?_) (fun h1 => ?_)
  · refine lv_iconst (v := (-1)) hx hb d_ND_childFor_23 (by decide) ?_
    exact lk_reti X h d_ND_childFor_24 (⟨(if_neg (by omega)).symm, rfl⟩)
  · refine lv_aload_n hx hb d_ND_childFor_14 rfl (lv_at hl 1 rfl) ?_
    refine ct_get X h (q0 := 5 + q) (by omega) (lk_ce_n (by omega)) rfl gl_ND 2 (by decide) rfl gf_ND_15 rfl d_ND_childFor_15 ?_
    refine lv_iload_n hx hb d_ND_childFor_18 rfl (lv_at hl 0 rfl) ?_
    refine nd_ald8 X h (q := q) (j := lk_at M q n k) (by omega) (by omega) d_ND_childFor_19 ?_
    refine lv_goto (tgt := 24) hx hb d_ND_childFor_20 (by decide) ?_
    exact lk_reti X h d_ND_childFor_24 (⟨(if_pos h1).symm, rfl⟩)
section
variable {pg : Program} {l : Launch} {en : Env} {R : Room} {s : State} {m : MethodId} {args : Array Value} {below : List Frame} {meth : Method} {cd : Code} {H : Heap} {locs : List Loc} {cells slots : Nat} {Q : State → Prop} {D : va_G} {τ : Nat → ClassId} {ad : Nat → Nat} {A : Nat → Prop} {H0 : Heap} {M : lk_M}
theorem w_ND_entryOfChild (X : lk_X pg s m args meth cd y_ND_entryOfChild b_ND_entryOfChild 3 (some (.int)) D τ) (h : lk_H D lk_cl A s.heap (lk_w 88 ad (lk_ce τ ad M)) H locs) {post : Int32 → lk_M → Prop} {q n : Nat} {x : Int32} (hq : q < 25) (hc : M 5 q = nI n) (hn : n ≤ 5) : ∀ (r i : Nat), i + r = n → post (lk_nn (lk_ff (M 8) x r (5 * q + i) - 5 * q) n) M → ∀ ls : Array Slot, lv_has ls 3 [(2, .int (nI i)), (0, .ref (ad (5 + q))), (1, .int x)] → W pg l en R s m args below meth cd H locs 0 0 (MQ below (va_Qi post (lk_Bh D τ 88 ad (lk_ce τ ad)) A) args s 0 0 A) (F0 m 2 ls []) := by
  obtain ⟨hx, hb, -⟩ := id X
  intro r
  induction r with
  | zero =>
    intro i hi hp ls hl
    have e1 : lk_nn (lk_ff (M 8) x 0 (5 * q + i) - 5 * q) n = -1 := if_neg (by show ¬ 5 * q + i - 5 * q < n; omega)
    rw [e1] at hp
    refine lv_iload_n hx hb d_ND_entryOfChild_2 rfl (lv_at hl 0 rfl) ?_
    refine lv_aload_n hx hb d_ND_entryOfChild_3 rfl (lv_at hl 1 rfl) ?_
    refine ct_get X h (q0 := 5 + q) (by omega) (lk_ce_n (by omega)) rfl gl_ND 3 (by decide) rfl gf_ND_40 rfl d_ND_entryOfChild_4 ?_
    refine lk_top (nI n) (hc) ?_
    refine lk_cN_ge (tgt := 28) hx hb (by omega) (by omega) d_ND_entryOfChild_7 (by decide) (fun h1 => ?_) (fun h1 => ?_)
    · refine lv_iconst (v := (-1)) hx hb d_ND_entryOfChild_28 (by decide) ?_
      exact lk_reti X h d_ND_entryOfChild_29 (hp)
    · omega
  | succ r ih =>
    intro i hi hp ls hl
    have e0 : lk_ff (M 8) x (r + 1) (5 * q + i) = if M 8 (5 * q + i) = x then 5 * q + i else lk_ff (M 8) x r (5 * q + i + 1) := rfl
    refine lv_iload_n hx hb d_ND_entryOfChild_2 rfl (lv_at hl 0 rfl) ?_
    refine lv_aload_n hx hb d_ND_entryOfChild_3 rfl (lv_at hl 1 rfl) ?_
    refine ct_get X h (q0 := 5 + q) (by omega) (lk_ce_n (by omega)) rfl gl_ND 3 (by decide) rfl gf_ND_40 rfl d_ND_entryOfChild_4 ?_
    refine lk_top (nI n) (hc) ?_
    refine lk_cN_ge (tgt := 28) hx hb (by omega) (by omega) d_ND_entryOfChild_7 (by decide) (fun h1 => ?_) (fun h1 => ?_)
    · omega
    · refine lv_aload_n hx hb d_ND_entryOfChild_10 rfl (lv_at hl 1 rfl) ?_
      refine ct_get X h (q0 := 5 + q) (by omega) (lk_ce_n (by omega)) rfl gl_ND 2 (by decide) rfl gf_ND_15 rfl d_ND_entryOfChild_11 ?_
      refine lv_iload_n hx hb d_ND_entryOfChild_14 rfl (lv_at hl 0 rfl) ?_
      refine nd_ald8 X h (q := q) (j := i) (by omega) (by omega) d_ND_entryOfChild_15 ?_
      refine lv_iload_n hx hb d_ND_entryOfChild_16 rfl (lv_at hl 2 rfl) ?_
      refine lv_icmp_ne (tgt := 22) hx hb d_ND_entryOfChild_17 (by decide) (fun h2 => ?_) (fun h2 => ?_)
      · refine lv_iinc (k := 0) (v := nI (i + 1)) hx hb d_ND_entryOfChild_22 hl rfl (nI_1 _) (by decide) rfl (fun ls hl => ?_)
        have hl : lv_has ls 3 [(2, .int (nI (i + 1))), (0, .ref (ad (5 + q))), (1, .int x)] := hl
        refine lv_goto (tgt := 2) hx hb d_ND_entryOfChild_25 (by decide) ?_
        refine ih (i + 1) (by omega) ?_ ls hl
        rw [e0, if_neg h2, show 5 * q + i + 1 = 5 * q + (i + 1) by omega] at hp
        exact hp
      · refine lv_iload_n hx hb d_ND_entryOfChild_20 rfl (lv_at hl 0 rfl) ?_
        rw [e0, if_pos h2] at hp
        have e1 : lk_nn (5 * q + i - 5 * q) n = nI i := by rw [show 5 * q + i - 5 * q = i by omega]; exact if_pos (by omega)
        rw [e1] at hp
        exact lk_reti X h d_ND_entryOfChild_21 (hp)
end
set_option maxRecDepth 20000 in
theorem c_ND_entryOfChild (l : Launch) (D : va_G) (τ : Nat → ClassId) (ad : Nat → Nat) (M : lk_M) (q n : Nat) (hq : q < 25) (hc : M 5 q = nI n) (hn : n ≤ 5) (x : Int32) : lk_Ci l D τ 88 ad (lk_ce τ ad) y_ND_entryOfChild b_ND_entryOfChild 3 (.int) 0 0 [.ref (ad (5 + q)), .int x] M (fun r M1 => r = lk_nn (lk_ch M q n x) n ∧ M1 = M) := by
  refine lk_openi (by decide +kernel) (Nat.le_of_ble_eq_true rfl) ?_
  intro pg en s m args below meth cd ls A X h hA hl
  obtain ⟨hx, hb, -⟩ := id X
  have hl : lv_has ls 3 [(0, .ref (ad (5 + q))), (1, .int x)] := hl
  refine lv_iconst (v := nI 0) hx hb d_ND_entryOfChild_0 (by decide) ?_
  refine lv_istore_n hx hb d_ND_entryOfChild_1 rfl hl (by decide) rfl (fun ls hl => ?_)
  have hl : lv_has ls 3 [(2, .int (nI 0)), (0, .ref (ad (5 + q))), (1, .int x)] := hl
  exact w_ND_entryOfChild X h hq hc hn n 0 (by omega) ⟨rfl, rfl⟩ ls hl
section
variable {pg : Program} {l : Launch} {en : Env} {R : Room} {s : State} {m : MethodId} {args : Array Value} {below : List Frame} {meth : Method} {cd : Code} {H : Heap} {locs : List Loc} {cells slots : Nat} {Q : State → Prop} {D : va_G} {τ : Nat → ClassId} {ad : Nat → Nat} {A : Nat → Prop} {H0 : Heap} {M : lk_M}
theorem w_ND_insert (X : lk_X pg s m args meth cd y_ND_insert b_ND_insert 5 (none) D τ) {q k n : Nat} {a b : Int32} (hq : q < 25) (hc : M 5 q = nI n) (hk : k ≤ n) (hn : n ≤ 4) : ∀ (r : Nat), k + r ≤ n → ∀ (H : Heap) (locs : List Loc) (ls : Array Slot), lk_H D lk_cl A H0 (lk_w 88 ad (lk_ce τ ad (lk_insL M q k n r))) H locs → lv_has ls 5 [(4, .int (nI (k + r))), (0, .ref (ad (5 + q))), (1, .int (nI k)), (2, .int a), (3, .int b)] → (∀ (H : Heap) (locs : List Loc) (ls : Array Slot), lk_H D lk_cl A H0 (lk_w 88 ad (lk_ce τ ad (lk_insL M q k n 0))) H locs → lv_has ls 5 [(4, .int (nI (k + 0))), (0, .ref (ad (5 + q))), (1, .int (nI k)), (2, .int a), (3, .int b)] → W pg l en R s m args below meth cd H locs cells slots Q (F0 m 75 ls [])) → W pg l en R s m args below meth cd H locs cells slots Q (F0 m 31 ls []) := by
  obtain ⟨hx, hb, -⟩ := id X
  intro r
  induction r with
  | zero =>
    intro hr H locs ls h hl kk
    refine lv_iload hx hb d_ND_insert_31 (lv_at hl 0 rfl) ?_
    refine lv_iload_n hx hb d_ND_insert_33 rfl (lv_at hl 2 rfl) ?_
    refine lk_cN_le (tgt := 75) hx hb (by omega) (by omega) d_ND_insert_34 (by decide) (fun h1 => ?_) (fun h1 => ?_)
    · exact kk H locs ls h hl
    · omega
  | succ r ih =>
    intro hr H locs ls h hl kk
    have ep : 5 * q + (k + (r + 1)) = 5 * q + k + (r + 1) := by omega
    have em : 5 * q + (k + (r + 1) - 1) = 5 * q + k + (r + 1) - 1 := by omega
    refine lv_iload hx hb d_ND_insert_31 (lv_at hl 0 rfl) ?_
    refine lv_iload_n hx hb d_ND_insert_33 rfl (lv_at hl 2 rfl) ?_
    refine lk_cN_le (tgt := 75) hx hb (by omega) (by omega) d_ND_insert_34 (by decide) (fun h1 => ?_) (fun h1 => ?_)
    · omega
    · refine lv_aload_n hx hb d_ND_insert_37 rfl (lv_at hl 1 rfl) ?_
      refine ct_get X h (q0 := 5 + q) (by omega) (lk_ce_n (by omega)) rfl gl_ND 1 (by decide) rfl gf_ND_9 rfl d_ND_insert_38 ?_
      refine lv_iload hx hb d_ND_insert_41 (lv_at hl 0 rfl) ?_
      refine lv_aload_n hx hb d_ND_insert_43 rfl (lv_at hl 1 rfl) ?_
      refine ct_get X h (q0 := 5 + q) (by omega) (lk_ce_n (by omega)) rfl gl_ND 1 (by decide) rfl gf_ND_9 rfl d_ND_insert_44 ?_
      refine lv_iload hx hb d_ND_insert_47 (lv_at hl 0 rfl) ?_
      refine lv_iconst (v := nI 1) hx hb d_ND_insert_49 (by decide) ?_
      refine lk_isubN hx hb (by omega) d_ND_insert_50 ?_
      refine nd_ald7 X h (q := q) (j := k + (r + 1) - 1) (by omega) (by omega) d_ND_insert_51 ?_
      refine nd_ast7 X h (q := q) (j := k + (r + 1)) (v := (lk_insL M q k n (r + 1)) 7 (5 * q + (k + (r + 1) - 1))) (by omega) (by omega) d_ND_insert_52 (fun H locs h => ?_)
      refine lv_aload_n hx hb d_ND_insert_53 rfl (lv_at hl 1 rfl) ?_
      refine ct_get X h (q0 := 5 + q) (by omega) (lk_ce_n (by omega)) rfl gl_ND 2 (by decide) rfl gf_ND_15 rfl d_ND_insert_54 ?_
      refine lv_iload hx hb d_ND_insert_57 (lv_at hl 0 rfl) ?_
      refine lv_aload_n hx hb d_ND_insert_59 rfl (lv_at hl 1 rfl) ?_
      refine ct_get X h (q0 := 5 + q) (by omega) (lk_ce_n (by omega)) rfl gl_ND 2 (by decide) rfl gf_ND_15 rfl d_ND_insert_60 ?_
      refine lv_iload hx hb d_ND_insert_63 (lv_at hl 0 rfl) ?_
      refine lv_iconst (v := nI 1) hx hb d_ND_insert_65 (by decide) ?_
      refine lk_isubN hx hb (by omega) d_ND_insert_66 ?_
      refine nd_ald8 X h (q := q) (j := k + (r + 1) - 1) (by omega) (by omega) d_ND_insert_67 ?_
      refine lk_top ((lk_insL M q k n (r + 1)) 8 (5 * q + (k + (r + 1) - 1))) (lk_st_f (by decide)) ?_
      refine nd_ast8 X h (q := q) (j := k + (r + 1)) (v := (lk_insL M q k n (r + 1)) 8 (5 * q + (k + (r + 1) - 1))) (by omega) (by omega) d_ND_insert_68 (fun H locs h => ?_)
      refine lv_iinc (k := 0) (v := nI (k + r)) hx hb d_ND_insert_69 hl rfl (pk_m1 _) (by decide) rfl (fun ls hl => ?_)
      have hl : lv_has ls 5 [(4, .int (nI (k + r))), (0, .ref (ad (5 + q))), (1, .int (nI k)), (2, .int a), (3, .int b)] := hl
      refine lv_goto (tgt := 31) hx hb d_ND_insert_72 (by decide) ?_
      rw [ep, em, lk_insL_s M hr] at h
      exact ih (by omega) H locs ls h hl kk
end
set_option maxRecDepth 20000 in
theorem c_ND_insert (l : Launch) (D : va_G) (τ : Nat → ClassId) (ad : Nat → Nat) (M : lk_M) (q k n : Nat) (hq : q < 25) (hc : M 5 q = nI n) (hk : k ≤ n) (hn : n ≤ 4) (a b : Int32) : lk_Cv l D τ 88 ad (lk_ce τ ad) y_ND_insert b_ND_insert 5 0 0 [.ref (ad (5 + q)), .int (nI k), .int a, .int b] M (fun M1 => M1 = lk_ins M q k n a b) := by
  refine lk_openv (by decide +kernel) (Nat.le_of_ble_eq_true rfl) ?_
  intro pg en s m args below meth cd ls A X h hA hl
  obtain ⟨hx, hb, -⟩ := id X
  have hl : lv_has ls 5 [(0, .ref (ad (5 + q))), (1, .int (nI k)), (2, .int a), (3, .int b)] := hl
  refine lv_iload_n hx hb d_ND_insert_0 rfl (lv_at hl 1 rfl) ?_
  refine lv_if_lt (tgt := 24) hx hb d_ND_insert_1 (by decide) (fun h1 => ?_) (fun h1 => ?_)
  · exact absurd h1 (nI_pos (by omega))
  · refine lv_iload_n hx hb d_ND_insert_4 rfl (lv_at hl 1 rfl) ?_
    refine lv_aload_n hx hb d_ND_insert_5 rfl (lv_at hl 0 rfl) ?_
    refine ct_get X h (q0 := 5 + q) (by omega) (lk_ce_n (by omega)) rfl gl_ND 3 (by decide) rfl gf_ND_40 rfl d_ND_insert_6 ?_
    refine lk_top (nI n) (hc) ?_
    refine lk_cN_gt (tgt := 24) hx hb (by omega) (by omega) d_ND_insert_9 (by decide) (fun h2 => ?_) (fun h2 => ?_)
    · omega
    · refine lv_aload_n hx hb d_ND_insert_12 rfl (lv_at hl 0 rfl) ?_
      refine ct_get X h (q0 := 5 + q) (by omega) (lk_ce_n (by omega)) rfl gl_ND 3 (by decide) rfl gf_ND_40 rfl d_ND_insert_13 ?_
      refine lk_top (nI n) (hc) ?_
      refine lv_aload_n hx hb d_ND_insert_16 rfl (lv_at hl 0 rfl) ?_
      refine ct_get X h (q0 := 5 + q) (by omega) (lk_ce_n (by omega)) rfl gl_ND 1 (by decide) rfl gf_ND_9 rfl d_ND_insert_17 ?_
      refine ct_alen X h (q0 := 30 + q) (by omega) (lk_ce_k (by omega)) d_ND_insert_20 ?_
      refine lk_cN_lt (tgt := 25) hx hb (by omega) (by omega) d_ND_insert_21 (by decide) (fun h3 => ?_) (fun h3 => ?_)
      · refine lv_aload_n hx hb d_ND_insert_25 rfl (lv_at hl 0 rfl) ?_
        refine ct_get X h (q0 := 5 + q) (by omega) (lk_ce_n (by omega)) rfl gl_ND 3 (by decide) rfl gf_ND_40 rfl d_ND_insert_26 ?_
        refine lk_top (nI n) (hc) ?_
        refine lv_istore hx hb d_ND_insert_29 hl (by decide) rfl (fun ls hl => ?_)
        have hl : lv_has ls 5 [(4, .int (nI n)), (0, .ref (ad (5 + q))), (1, .int (nI k)), (2, .int a), (3, .int b)] := hl
        obtain ⟨r, rfl⟩ : ∃ r, n = k + r := ⟨n - k, by omega⟩
        refine w_ND_insert X hq hc hk hn r (Nat.le_refl _) _ _ ls (by rw [lk_insL_n M rfl]; exact h) hl (fun H locs ls h hl => ?_)
        have hc0 : lk_insL M q k (k + r) 0 5 q = nI (k + r) := (lk_insL_5 M q k (k + r) 0 q).trans hc
        refine lv_aload_n hx hb d_ND_insert_75 rfl (lv_at hl 1 rfl) ?_
        refine ct_get X h (q0 := 5 + q) (by omega) (lk_ce_n (by omega)) rfl gl_ND 1 (by decide) rfl gf_ND_9 rfl d_ND_insert_76 ?_
        refine lv_iload_n hx hb d_ND_insert_79 rfl (lv_at hl 2 rfl) ?_
        refine lv_iload_n hx hb d_ND_insert_80 rfl (lv_at hl 3 rfl) ?_
        refine nd_ast7 X h (q := q) (j := k) (v := a) (by omega) (by omega) d_ND_insert_81 (fun H locs h => ?_)
        refine lv_aload_n hx hb d_ND_insert_82 rfl (lv_at hl 1 rfl) ?_
        refine ct_get X h (q0 := 5 + q) (by omega) (lk_ce_n (by omega)) rfl gl_ND 2 (by decide) rfl gf_ND_15 rfl d_ND_insert_83 ?_
        refine lv_iload_n hx hb d_ND_insert_86 rfl (lv_at hl 2 rfl) ?_
        refine lv_iload_n hx hb d_ND_insert_87 rfl (lv_at hl 4 rfl) ?_
        refine nd_ast8 X h (q := q) (j := k) (v := b) (by omega) (by omega) d_ND_insert_88 (fun H locs h => ?_)
        refine lv_aload_n hx hb d_ND_insert_89 rfl (lv_at hl 1 rfl) ?_
        refine lv_dup hx hb d_ND_insert_90 rfl ?_
        refine ct_get X h (q0 := 5 + q) (by omega) (lk_ce_n (by omega)) rfl gl_ND 3 (by decide) rfl gf_ND_40 rfl d_ND_insert_91 ?_
        refine lk_top (nI (k + r)) ((lk_st_f (by decide)).trans ((lk_st_f (by decide)).trans (hc0))) ?_
        refine lv_iconst (v := nI 1) hx hb d_ND_insert_94 (by decide) ?_
        refine lk_iaddN hx hb d_ND_insert_95 ?_
        refine nd_put3 X h (q := q) (by omega) gf_ND_40 d_ND_insert_96 (fun H locs h => ?_)
        exact lk_retv X h d_ND_insert_99 (lk_insL_e M q k (k + r) a b)
      · omega
section
variable {pg : Program} {l : Launch} {en : Env} {R : Room} {s : State} {m : MethodId} {args : Array Value} {below : List Frame} {meth : Method} {cd : Code} {H : Heap} {locs : List Loc} {cells slots : Nat} {Q : State → Prop} {D : va_G} {τ : Nat → ClassId} {ad : Nat → Nat} {A : Nat → Prop} {H0 : Heap} {M : lk_M}
theorem w_ND_delete (X : lk_X pg s m args meth cd y_ND_delete b_ND_delete 3 (none) D τ) {q k n : Nat} (hq : q < 25) (hk : k < n) (hn : n ≤ 5) : ∀ (r j : Nat), k + j + r = n - 1 → ∀ (H : Heap) (locs : List Loc) (ls : Array Slot), lk_H D lk_cl A H0 (lk_w 88 ad (lk_ce τ ad (lk_delL M q k n j))) H locs → lv_has ls 3 [(2, .int (nI (k + j))), (0, .ref (ad (5 + q))), (1, .int (nI k))] → (∀ (H : Heap) (locs : List Loc) (ls : Array Slot), lk_H D lk_cl A H0 (lk_w 88 ad (lk_ce τ ad (lk_del M q k n))) H locs → W pg l en R s m args below meth cd H locs cells slots Q (F0 m 67 ls [])) → W pg l en R s m args below meth cd H locs cells slots Q (F0 m 25 ls []) := by
  obtain ⟨hx, hb, -⟩ := id X
  intro r
  induction r with
  | zero =>
    intro j hj H locs ls h hl kk
    have hc := lk_delL_5 M q k n j
    refine lv_iload_n hx hb d_ND_delete_25 rfl (lv_at hl 0 rfl) ?_
    refine lv_aload_n hx hb d_ND_delete_26 rfl (lv_at hl 1 rfl) ?_
    refine ct_get X h (q0 := 5 + q) (by omega) (lk_ce_n (by omega)) rfl gl_ND 3 (by decide) rfl gf_ND_40 rfl d_ND_delete_27 ?_
    refine lk_top (nI (n - 1)) (hc) ?_
    refine lk_cN_ge (tgt := 67) hx hb (by omega) (by omega) d_ND_delete_30 (by decide) (fun h1 => ?_) (fun h1 => ?_)
    · rw [lk_delL_e M (by omega)] at h
      exact kk H locs ls h
    · omega
  | succ r ih =>
    intro j hj H locs ls h hl kk
    have hc := lk_delL_5 M q k n j
    have ep : 5 * q + (k + j) = 5 * q + k + j := by omega
    have em : 5 * q + (k + j + 1) = 5 * q + k + j + 1 := by omega
    refine lv_iload_n hx hb d_ND_delete_25 rfl (lv_at hl 0 rfl) ?_
    refine lv_aload_n hx hb d_ND_delete_26 rfl (lv_at hl 1 rfl) ?_
    refine ct_get X h (q0 := 5 + q) (by omega) (lk_ce_n (by omega)) rfl gl_ND 3 (by decide) rfl gf_ND_40 rfl d_ND_delete_27 ?_
    refine lk_top (nI (n - 1)) (hc) ?_
    refine lk_cN_ge (tgt := 67) hx hb (by omega) (by omega) d_ND_delete_30 (by decide) (fun h1 => ?_) (fun h1 => ?_)
    · omega
    · refine lv_aload_n hx hb d_ND_delete_33 rfl (lv_at hl 1 rfl) ?_
      refine ct_get X h (q0 := 5 + q) (by omega) (lk_ce_n (by omega)) rfl gl_ND 1 (by decide) rfl gf_ND_9 rfl d_ND_delete_34 ?_
      refine lv_iload_n hx hb d_ND_delete_37 rfl (lv_at hl 0 rfl) ?_
      refine lv_aload_n hx hb d_ND_delete_38 rfl (lv_at hl 1 rfl) ?_
      refine ct_get X h (q0 := 5 + q) (by omega) (lk_ce_n (by omega)) rfl gl_ND 1 (by decide) rfl gf_ND_9 rfl d_ND_delete_39 ?_
      refine lv_iload_n hx hb d_ND_delete_42 rfl (lv_at hl 0 rfl) ?_
      refine lv_iconst (v := nI 1) hx hb d_ND_delete_43 (by decide) ?_
      refine lk_iaddN hx hb d_ND_delete_44 ?_
      refine nd_ald7 X h (q := q) (j := k + j + 1) (by omega) (by omega) d_ND_delete_45 ?_
      refine nd_ast7 X h (q := q) (j := k + j) (v := (lk_delL M q k n j) 7 (5 * q + (k + j + 1))) (by omega) (by omega) d_ND_delete_46 (fun H locs h => ?_)
      refine lv_aload_n hx hb d_ND_delete_47 rfl (lv_at hl 1 rfl) ?_
      refine ct_get X h (q0 := 5 + q) (by omega) (lk_ce_n (by omega)) rfl gl_ND 2 (by decide) rfl gf_ND_15 rfl d_ND_delete_48 ?_
      refine lv_iload_n hx hb d_ND_delete_51 rfl (lv_at hl 0 rfl) ?_
      refine lv_aload_n hx hb d_ND_delete_52 rfl (lv_at hl 1 rfl) ?_
      refine ct_get X h (q0 := 5 + q) (by omega) (lk_ce_n (by omega)) rfl gl_ND 2 (by decide) rfl gf_ND_15 rfl d_ND_delete_53 ?_
      refine lv_iload_n hx hb d_ND_delete_56 rfl (lv_at hl 0 rfl) ?_
      refine lv_iconst (v := nI 1) hx hb d_ND_delete_57 (by decide) ?_
      refine lk_iaddN hx hb d_ND_delete_58 ?_
      refine nd_ald8 X h (q := q) (j := k + j + 1) (by omega) (by omega) d_ND_delete_59 ?_
      refine lk_top ((lk_delL M q k n j) 8 (5 * q + (k + j + 1))) (lk_st_f (by decide)) ?_
      refine nd_ast8 X h (q := q) (j := k + j) (v := (lk_delL M q k n j) 8 (5 * q + (k + j + 1))) (by omega) (by omega) d_ND_delete_60 (fun H locs h => ?_)
      refine lv_iinc (k := 0) (v := nI (k + j + 1)) hx hb d_ND_delete_61 hl rfl (nI_1 _) (by decide) rfl (fun ls hl => ?_)
      have hl : lv_has ls 3 [(2, .int (nI (k + j + 1))), (0, .ref (ad (5 + q))), (1, .int (nI k))] := hl
      refine lv_goto (tgt := 25) hx hb d_ND_delete_64 (by decide) ?_
      rw [ep, em, lk_delL_s] at h
      exact ih (j + 1) (by omega) H locs ls h hl kk
end
set_option maxRecDepth 20000 in
theorem c_ND_delete (l : Launch) (D : va_G) (τ : Nat → ClassId) (ad : Nat → Nat) (M : lk_M) (q k n : Nat) (hq : q < 25) (hc : M 5 q = nI n) (hk : k < n) (hn : n ≤ 5) : lk_Cv l D τ 88 ad (lk_ce τ ad) y_ND_delete b_ND_delete 3 0 0 [.ref (ad (5 + q)), .int (nI k)] M (fun M1 => M1 = lk_del M q k n) := by
  refine lk_openv (by decide +kernel) (Nat.le_of_ble_eq_true rfl) ?_
  intro pg en s m args below meth cd ls A X h hA hl
  obtain ⟨hx, hb, -⟩ := id X
  have hl : lv_has ls 3 [(0, .ref (ad (5 + q))), (1, .int (nI k))] := hl
  refine lv_iload_n hx hb d_ND_delete_0 rfl (lv_at hl 1 rfl) ?_
  refine lv_if_lt (tgt := 12) hx hb d_ND_delete_1 (by decide) (fun h1 => ?_) (fun h1 => ?_)
  · exact absurd h1 (nI_pos (by omega))
  · refine lv_iload_n hx hb d_ND_delete_4 rfl (lv_at hl 1 rfl) ?_
    refine lv_aload_n hx hb d_ND_delete_5 rfl (lv_at hl 0 rfl) ?_
    refine ct_get X h (q0 := 5 + q) (by omega) (lk_ce_n (by omega)) rfl gl_ND 3 (by decide) rfl gf_ND_40 rfl d_ND_delete_6 ?_
    refine lk_top (nI n) (hc) ?_
    refine lk_cN_lt (tgt := 13) hx hb (by omega) (by omega) d_ND_delete_9 (by decide) (fun h2 => ?_) (fun h2 => ?_)
    · refine lv_aload_n hx hb d_ND_delete_13 rfl (lv_at hl 0 rfl) ?_
      refine lv_dup hx hb d_ND_delete_14 rfl ?_
      refine ct_get X h (q0 := 5 + q) (by omega) (lk_ce_n (by omega)) rfl gl_ND 3 (by decide) rfl gf_ND_40 rfl d_ND_delete_15 ?_
      refine lk_top (nI n) (hc) ?_
      refine lv_iconst (v := nI 1) hx hb d_ND_delete_18 (by decide) ?_
      refine lk_isubN hx hb (by omega) d_ND_delete_19 ?_
      refine nd_put3 X h (q := q) (by omega) gf_ND_40 d_ND_delete_20 (fun H locs h => ?_)
      refine lv_iload_n hx hb d_ND_delete_23 rfl (lv_at hl 1 rfl) ?_
      refine lv_istore_n hx hb d_ND_delete_24 rfl hl (by decide) rfl (fun ls hl => ?_)
      have hl : lv_has ls 3 [(2, .int (nI k)), (0, .ref (ad (5 + q))), (1, .int (nI k))] := hl
      refine w_ND_delete X hq hk hn (n - 1 - k) 0 (by omega) _ _ ls (by rw [lk_delL_0]; exact h) hl (fun H locs ls h => ?_)
      exact lk_retv X h d_ND_delete_67 (rfl)
    · omega
def cc_div (M : lk_M) (q n : Nat) (k x : Int32) : lk_M := if lk_at M q n k < n then lk_st (lk_ins M q (lk_at M q n k) n k (M 8 (5 * q + lk_at M q n k))) 8 (5 * q + lk_at M q n k + 1) x else M
set_option maxRecDepth 20000 in
theorem c_ND_divideEntry (l : Launch) (D : va_G) (τ : Nat → ClassId) (ad : Nat → Nat) (M : lk_M) (q n : Nat) (hq : q < 25) (hc : M 5 q = nI n) (hn : n ≤ 4) (k x : Int32) : lk_Cv l D τ 88 ad (lk_ce τ ad) y_ND_divideEntry b_ND_divideEntry 4 1 24 [.ref (ad (5 + q)), .int k, .int x] M (fun M1 => M1 = cc_div M q n k x) := by
  refine lk_openv (by decide +kernel) (Nat.le_of_ble_eq_true rfl) ?_
  intro pg en s m args below meth cd ls A X h hA hl
  obtain ⟨hx, hb, -⟩ := id X
  have hl : lv_has ls 4 [(0, .ref (ad (5 + q))), (1, .int k), (2, .int x)] := hl
  have hle := lk_at_le M q n k
  refine lv_aload_n hx hb d_ND_divideEntry_0 rfl (lv_at hl 0 rfl) ?_
  refine lv_iload_n hx hb d_ND_divideEntry_1 rfl (lv_at hl 1 rfl) ?_
  refine lk_goi (lk_runV (As := [.int k]) (C := R_ND) X h (c_ND_firstNotBelow l D τ ad M q n hq hc (by omega) k) ⟨gc_ND_firstNotBelow, gm_ND_43, gn_ND, gd_ND_firstNotBelow, by decide, by decide⟩ gi_ND_firstNotBelow gs_ND_firstNotBelow ⟨5 + q, 1, _, _, _, by rw [lk_w_get (by omega), lk_ce_n (by omega)], rfl⟩ rfl hl.1 (Nat.le_of_ble_eq_true rfl) d_ND_divideEntry_2 ⟨Nat.zero_le _, Nat.zero_le _⟩) h hA (fun r2 σ2 H locs hk9 h => ?_)
  rw [hk9.2] at h
  rw [hk9.1]
  refine lv_istore_n hx hb d_ND_divideEntry_5 rfl hl (by decide) rfl (fun ls hl => ?_)
  have hl : lv_has ls 4 [(3, .int (nI (lk_at M q n k))), (0, .ref (ad (5 + q))), (1, .int k), (2, .int x)] := hl
  refine lv_iload_n hx hb d_ND_divideEntry_6 rfl (lv_at hl 0 rfl) ?_
  refine lv_aload_n hx hb d_ND_divideEntry_7 rfl (lv_at hl 1 rfl) ?_
  refine ct_get X h (q0 := 5 + q) (by omega) (lk_ce_n (by omega)) rfl gl_ND 3 (by decide) rfl gf_ND_40 rfl d_ND_divideEntry_8 ?_
  refine lk_top (nI n) (hc) ?_
  refine lk_cN_ge (tgt := 47) hx hb (by omega) (by omega) d_ND_divideEntry_11 (by decide) (fun h1 => ?_) (fun h1 => ?_)
  · exact lk_retv X h d_ND_divideEntry_47 (by rw [cc_div, if_neg (by omega)])
  · refine lv_aload_n hx hb d_ND_divideEntry_14 rfl (lv_at hl 1 rfl) ?_
    refine ct_get X h (q0 := 5 + q) (by omega) (lk_ce_n (by omega)) rfl gl_ND 3 (by decide) rfl gf_ND_40 rfl d_ND_divideEntry_15 ?_
    refine lk_top (nI n) (hc) ?_
    refine lv_aload_n hx hb d_ND_divideEntry_18 rfl (lv_at hl 1 rfl) ?_
    refine ct_get X h (q0 := 5 + q) (by omega) (lk_ce_n (by omega)) rfl gl_ND 1 (by decide) rfl gf_ND_9 rfl d_ND_divideEntry_19 ?_
    refine ct_alen X h (q0 := 30 + q) (by omega) (lk_ce_k (by omega)) d_ND_divideEntry_22 ?_
    refine lk_cN_ge (tgt := 47) hx hb (by omega) (by omega) d_ND_divideEntry_23 (by decide) (fun h2 => ?_) (fun h2 => ?_)
    · omega
    · refine lv_aload_n hx hb d_ND_divideEntry_26 rfl (lv_at hl 1 rfl) ?_
      refine lv_iload_n hx hb d_ND_divideEntry_27 rfl (lv_at hl 0 rfl) ?_
      refine lv_iload_n hx hb d_ND_divideEntry_28 rfl (lv_at hl 2 rfl) ?_
      refine lv_aload_n hx hb d_ND_divideEntry_29 rfl (lv_at hl 1 rfl) ?_
      refine ct_get X h (q0 := 5 + q) (by omega) (lk_ce_n (by omega)) rfl gl_ND 2 (by decide) rfl gf_ND_15 rfl d_ND_divideEntry_30 ?_
      refine lv_iload_n hx hb d_ND_divideEntry_33 rfl (lv_at hl 0 rfl) ?_
      refine nd_ald8 X h (q := q) (j := lk_at M q n k) (by omega) (by omega) d_ND_divideEntry_34 ?_
      refine lk_gov (lk_runV (As := [.int (nI (lk_at M q n k)), .int k, .int (M 8 (5 * q + (lk_at M q n k)))]) (C := R_ND) X h (c_ND_insert l D τ ad M q (lk_at M q n k) n hq hc hle hn _ _) ⟨gc_ND_insert, gm_ND_51, gn_ND, gd_ND_insert, by decide, by decide⟩ gi_ND_insert gs_ND_insert ⟨5 + q, 1, _, _, _, by rw [lk_w_get (by omega), lk_ce_n (by omega)], rfl⟩ rfl hl.1 (Nat.le_of_ble_eq_true rfl) d_ND_divideEntry_35 ⟨Nat.zero_le _, Nat.zero_le _⟩) h hA (fun σ35 H locs hk9 h => ?_)
      rw [hk9] at h
      refine lv_aload_n hx hb d_ND_divideEntry_38 rfl (lv_at hl 1 rfl) ?_
      refine ct_get X h (q0 := 5 + q) (by omega) (lk_ce_n (by omega)) rfl gl_ND 2 (by decide) rfl gf_ND_15 rfl d_ND_divideEntry_39 ?_
      refine lv_iload_n hx hb d_ND_divideEntry_42 rfl (lv_at hl 0 rfl) ?_
      refine lv_iconst (v := nI 1) hx hb d_ND_divideEntry_43 (by decide) ?_
      refine lk_iaddN hx hb d_ND_divideEntry_44 ?_
      refine lv_iload_n hx hb d_ND_divideEntry_45 rfl (lv_at hl 3 rfl) ?_
      refine nd_ast8 X h (q := q) (j := lk_at M q n k + 1) (v := x) (by omega) (by omega) d_ND_divideEntry_46 (fun H locs h => ?_)
      exact lk_retv X h d_ND_divideEntry_47 (by rw [cc_div, if_pos h1]; rfl)
