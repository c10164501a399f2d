theorem lk_st_st (σ : lk_M) (a i : Nat) (v w : Int32) : lk_st (lk_st σ a i v) a i w = lk_st σ a i w := by
  funext b j
  simp only [lk_st_eq]
  by_cases h : b = a ∧ j = i
  · simp [h]
  · simp [h]
section
variable {pg : Program} {l : Launch} {en : Env} {R : Room} {s : State} {m : MethodId} {args : Array Value} {below : List Frame} {meth : Method} {cd : Code} {H : Heap} {locs : List Loc} {cells slots : Nat} {Q : State → Prop} {D : va_G} {τ : Nat → ClassId} {ad : Nat → Nat} {A : Nat → Prop} {H0 : Heap} {M : lk_M}
theorem w_MO_freePage (X : lk_X pg s m args meth cd y_MO_freePage b_MO_freePage 2 (some (.int)) D τ) (h : lk_H D lk_cl A s.heap (lk_w 25 ad (lk_me τ ad M)) H locs) {post : Int32 → lk_M → Prop} : ∀ (r k : Nat), k + r = 24 → post (lk_nn (lk_ff (M 0) 0 r k) 24) M → ∀ ls : Array Slot, lv_has ls 2 [(1, .int (nI k)), (0, .ref (ad 0))] → W pg l en R s m args below meth cd H locs 0 0 (MQ below (va_Qi post (lk_Bh D τ 25 ad (lk_me τ ad)) A) args s 0 0 A) (F0 m 2 ls []) := by
  obtain ⟨hx, hb, -⟩ := id X
  intro r
  induction r with
  | zero =>
    intro k hk hp ls hl
    refine lv_iload_n hx hb d_MO_freePage_2 rfl (lv_at hl 0 rfl) ?_
    refine lv_bipush (v := nI 24) hx hb d_MO_freePage_3 (by decide) ?_
    refine lk_cN_ge (tgt := 25) hx hb (by omega) (by omega) d_MO_freePage_5 (by decide) (fun h1 => ?_) (fun h1 => ?_)
    · refine lv_iconst (v := (-1)) hx hb d_MO_freePage_25 (by decide) ?_
      have e1 : lk_nn (lk_ff (M 0) 0 0 k) 24 = -1 := if_neg (by show ¬ k < 24; omega)
      rw [e1] at hp
      exact lk_reti X h d_MO_freePage_26 (hp)
    · omega
  | succ r ih =>
    intro k hk hp ls hl
    have e0 : lk_ff (M 0) 0 (r + 1) k = if M 0 k = 0 then k else lk_ff (M 0) 0 r (k + 1) := rfl
    refine lv_iload_n hx hb d_MO_freePage_2 rfl (lv_at hl 0 rfl) ?_
    refine lv_bipush (v := nI 24) hx hb d_MO_freePage_3 (by decide) ?_
    refine lk_cN_ge (tgt := 25) hx hb (by omega) (by omega) d_MO_freePage_5 (by decide) (fun h1 => ?_) (fun h1 => ?_)
    · omega
    · refine lv_aload_n hx hb d_MO_freePage_8 rfl (lv_at hl 1 rfl) ?_
      refine mo_get X rfl h 1 (by decide) rfl gf_MO_7 rfl d_MO_freePage_9 ?_
      refine lv_iload_n hx hb d_MO_freePage_12 rfl (lv_at hl 0 rfl) ?_
      refine mo_ald X h 0 24 rfl (by decide) (j := k) (by omega) (by decide) d_MO_freePage_13 ?_
      refine lv_if_ne (tgt := 19) hx hb d_MO_freePage_14 (by decide) (fun h2 => ?_) (fun h2 => ?_)
      · refine lv_iinc (k := 0) (v := nI (k + 1)) hx hb d_MO_freePage_19 hl rfl (nI_1 _) (by decide) rfl (fun ls hl => ?_)
        have hl : lv_has ls 2 [(1, .int (nI (k + 1))), (0, .ref (ad 0))] := hl
        refine lv_goto (tgt := 2) hx hb d_MO_freePage_22 (by decide) ?_
        refine ih (k + 1) (by omega) ?_ ls hl
        rw [e0, if_neg h2] at hp
        exact hp
      · refine lv_iload_n hx hb d_MO_freePage_17 rfl (lv_at hl 0 rfl) ?_
        rw [e0, if_pos h2] at hp
        have e1 : lk_nn k 24 = nI k := if_pos (by omega)
        rw [e1] at hp
        exact lk_reti X h d_MO_freePage_18 (hp)
end
set_option maxRecDepth 20000 in
theorem c_MO_freePage (l : Launch) (D : va_G) (τ : Nat → ClassId) (ad : Nat → Nat) (M : lk_M) : lk_Ci l D τ 25 ad (lk_me τ ad) y_MO_freePage b_MO_freePage 2 (.int) 0 0 [.ref (ad 0)] M (fun r M1 => r = lk_nn (lk_free M) 24 ∧ M1 = M) := by
  refine lk_openi (by decide +kernel) (Nat.le_of_ble_eq_true rfl) ?_
  intro pg en s m args below meth cd ls A X h hA hl
  obtain ⟨hx, hb, -⟩ := id X
  have hl : lv_has ls 2 [(0, .ref (ad 0))] := hl
  refine lv_iconst (v := nI 0) hx hb d_MO_freePage_0 (by decide) ?_
  refine lv_istore_n hx hb d_MO_freePage_1 rfl hl (by decide) rfl (fun ls hl => ?_)
  have hl : lv_has ls 2 [(1, .int (nI 0)), (0, .ref (ad 0))] := hl
  exact w_MO_freePage X h 24 0 (by omega) ⟨rfl, rfl⟩ ls hl
def lk_nopL (σ : lk_M) (t k : Nat) : lk_M := va_up σ 19 (fun i => if 32 * t ≤ i ∧ i < 32 * t + k then -1 else σ 19 i)
theorem lk_nopL_0 (σ : lk_M) (t : Nat) : lk_nopL σ t 0 = σ := by
  funext f i
  unfold lk_nopL
  rw [lk_up_eq]
  by_cases h : f = 19
  · subst h; simp; omega
  · simp [h]
theorem lk_nopL_s (σ : lk_M) (t k : Nat) : lk_st (lk_nopL σ t k) 19 (32 * t + k) (-1) = lk_nopL σ t (k + 1) := by
  funext f i
  unfold lk_nopL
  simp only [lk_st_eq, lk_up_eq]
  by_cases h : f = 19
  · subst h
    by_cases h2 : i = 32 * t + k
    · subst h2; simp
    · simp only [h2, and_false, if_false, if_true]
      by_cases h3 : 32 * t ≤ i ∧ i < 32 * t + k
      · rw [if_pos h3, if_pos (by omega)]
      · rw [if_neg h3, if_neg (by omega)]
  · simp [h]
section
variable {pg : Program} {l : Launch} {en : Env} {R : Room} {s : State} {m : MethodId} {args : Array Value} {below : List Frame} {meth : Method} {cd : Code} {H : Heap} {locs : List Loc} {cells slots : Nat} {Q : State → Prop} {D : va_G} {τ : Nat → ClassId} {ad : Nat → Nat} {A : Nat → Prop} {H0 : Heap} {M : lk_M}
theorem w_MO_forgetPath (X : lk_X pg s m args meth cd y_MO_forgetPath b_MO_forgetPath 3 (none) D τ) {t : Nat} (ht : t < 4) : ∀ (r k : Nat), k + r = 32 → ∀ (H : Heap) (locs : List Loc) (ls : Array Slot), lk_H D lk_cl A H0 (lk_w 25 ad (lk_me τ ad (lk_nopL M t k))) H locs → lv_has ls 3 [(2, .int (nI (32 * t + k))), (0, .ref (ad 0)), (1, .int (nI t))] → (∀ (H : Heap) (locs : List Loc) (ls : Array Slot), lk_H D lk_cl A H0 (lk_w 25 ad (lk_me τ ad (lk_nop M t))) H locs → W pg l en R s m args below meth cd H locs cells slots Q (F0 m 29 ls [])) → W pg l en R s m args below meth cd H locs cells slots Q (F0 m 5 ls []) := by
  obtain ⟨hx, hb, -⟩ := id X
  intro r
  induction r with
  | zero =>
    intro k hk H locs ls h hl kk
    have hk : k = 32 := by omega
    subst hk
    refine lv_iload_n hx hb d_MO_forgetPath_5 rfl (lv_at hl 0 rfl) ?_
    refine lv_bipush (v := nI 32) hx hb d_MO_forgetPath_6 (by decide) ?_
    refine lv_iload_n hx hb d_MO_forgetPath_8 rfl (lv_at hl 2 rfl) ?_
    refine lk_imulN hx hb d_MO_forgetPath_9 ?_
    refine lv_bipush (v := nI 32) hx hb d_MO_forgetPath_10 (by decide) ?_
    refine lk_iaddN hx hb d_MO_forgetPath_12 ?_
    refine lk_cN_ge (tgt := 29) hx hb (by omega) (by omega) d_MO_forgetPath_13 (by decide) (fun h1 => ?_) (fun h1 => ?_)
    · exact kk H locs ls h
    · omega
  | succ r ih =>
    intro k hk H locs ls h hl kk
    refine lv_iload_n hx hb d_MO_forgetPath_5 rfl (lv_at hl 0 rfl) ?_
    refine lv_bipush (v := nI 32) hx hb d_MO_forgetPath_6 (by decide) ?_
    refine lv_iload_n hx hb d_MO_forgetPath_8 rfl (lv_at hl 2 rfl) ?_
    refine lk_imulN hx hb d_MO_forgetPath_9 ?_
    refine lv_bipush (v := nI 32) hx hb d_MO_forgetPath_10 (by decide) ?_
    refine lk_iaddN hx hb d_MO_forgetPath_12 ?_
    refine lk_cN_ge (tgt := 29) hx hb (by omega) (by omega) d_MO_forgetPath_13 (by decide) (fun h1 => ?_) (fun h1 => ?_)
    · omega
    · refine lv_aload_n hx hb d_MO_forgetPath_16 rfl (lv_at hl 1 rfl) ?_
      refine mo_get X rfl h 22 (by decide) rfl gf_MO_68 rfl d_MO_forgetPath_17 ?_
      refine lv_iload_n hx hb d_MO_forgetPath_20 rfl (lv_at hl 0 rfl) ?_
      refine lv_iconst (v := (-1)) hx hb d_MO_forgetPath_21 (by decide) ?_
      refine mo_ast X h 19 128 rfl (by decide) (j := 32 * t + k) (v := (-1)) (by omega) (by decide) d_MO_forgetPath_22 (fun H locs h => ?_)
      refine lv_iinc (k := 0) (v := nI (32 * t + k + 1)) hx hb d_MO_forgetPath_23 hl rfl (nI_1 _) (by decide) rfl (fun ls hl => ?_)
      have hl : lv_has ls 3 [(2, .int (nI (32 * t + k + 1))), (0, .ref (ad 0)), (1, .int (nI t))] := hl
      refine lv_goto (tgt := 5) hx hb d_MO_forgetPath_26 (by decide) ?_
      rw [lk_nopL_s] at h
      exact ih (k + 1) (by omega) H locs ls h hl kk
end
set_option maxRecDepth 20000 in
theorem c_MO_forgetPath (l : Launch) (D : va_G) (τ : Nat → ClassId) (ad : Nat → Nat) (M : lk_M) (t : Nat) (ht : t < 4) : lk_Cv l D τ 25 ad (lk_me τ ad) y_MO_forgetPath b_MO_forgetPath 3 0 0 [.ref (ad 0), .int (nI t)] M (fun M1 => M1 = lk_nop M t) := by
  refine lk_openv (by decide +kernel) (Nat.le_of_ble_eq_true rfl) ?_
  intro pg en s m args below meth cd ls A X h hA hl
  obtain ⟨hx, hb, -⟩ := id X
  have hl : lv_has ls 3 [(0, .ref (ad 0)), (1, .int (nI t))] := hl
  refine lv_bipush (v := nI 32) hx hb d_MO_forgetPath_0 (by decide) ?_
  refine lv_iload_n hx hb d_MO_forgetPath_2 rfl (lv_at hl 1 rfl) ?_
  refine lk_imulN hx hb d_MO_forgetPath_3 ?_
  refine lv_istore_n hx hb d_MO_forgetPath_4 rfl hl (by decide) rfl (fun ls hl => ?_)
  have hl : lv_has ls 3 [(2, .int (nI (32 * t))), (0, .ref (ad 0)), (1, .int (nI t))] := hl
  refine w_MO_forgetPath X ht 32 0 (by omega) _ _ ls (by rw [lk_nopL_0]; exact h) hl (fun H locs ls h => ?_)
  exact lk_retv X h d_MO_forgetPath_29 (rfl)
def lk_pR (f : Nat → Int32) (lo hi : Nat) : Nat → Int32 := fun i => if lo < i ∧ i ≤ hi then f (i - 1) else f i
def lk_insL (M : lk_M) (p k n r : Nat) : lk_M := va_up (va_up M 7 (lk_pR (M 7) (5 * p + k + r) (5 * p + n))) 8 (lk_pR (M 8) (5 * p + k + r) (5 * p + n))
theorem lk_pR_id (f : Nat → Int32) {lo hi : Nat} (h : hi ≤ lo) : lk_pR f lo hi = f := by
  funext i
  unfold lk_pR
  rw [if_neg (by omega)]
theorem lk_up_id (M : lk_M) (a : Nat) : va_up M a (M a) = M := by
  funext f
  unfold va_up
  by_cases h : f = a
  · rw [if_pos h, h]
  · rw [if_neg h]
theorem lk_insL_n (M : lk_M) {p k n r : Nat} (h : k + r = n) : lk_insL M p k n r = M := by
  unfold lk_insL
  rw [lk_pR_id _ (by omega), lk_pR_id _ (by omega), lk_up_id, lk_up_id]
theorem lk_pR_s (f : Nat → Int32) (lo hi i : Nat) (h : lo + 1 ≤ hi) : (if i = lo + 1 then lk_pR f (lo + 1) hi (lo + 1 - 1) else lk_pR f (lo + 1) hi i) = lk_pR f lo hi i := by
  unfold lk_pR
  by_cases h2 : i = lo + 1
  · subst h2
    rw [if_pos rfl, if_neg (by omega), if_pos (by omega)]
  · rw [if_neg h2]
    by_cases h3 : lo + 1 < i ∧ i ≤ hi
    · rw [if_pos h3, if_pos (by omega)]
    · rw [if_neg h3, if_neg (by omega)]
theorem lk_insL_s (M : lk_M) {p k n r : Nat} (h : k + (r + 1) ≤ n) : lk_st (lk_st (lk_insL M p k n (r + 1)) 7 (5 * p + k + (r + 1)) (lk_insL M p k n (r + 1) 7 (5 * p + k + (r + 1) - 1))) 8 (5 * p + k + (r + 1)) (lk_insL M p k n (r + 1) 8 (5 * p + k + (r + 1) - 1)) = lk_insL M p k n r := by
  funext f i
  unfold lk_insL
  have e : 5 * p + k + (r + 1) = 5 * p + k + r + 1 := by omega
  simp only [lk_st_eq, lk_up_eq, e]
  by_cases h8 : f = 8
  · subst h8
    have := lk_pR_s (M 8) (5 * p + k + r) (5 * p + n) i (by omega)
    simpa using this
  · by_cases h7 : f = 7
    · subst h7
      have := lk_pR_s (M 7) (5 * p + k + r) (5 * p + n) i (by omega)
      simpa using this
    · simp [h8, h7]
theorem lk_insL_5 (M : lk_M) (p k n r x : Nat) : lk_insL M p k n r 5 x = M 5 x := by
  unfold lk_insL
  simp [lk_up_eq]
theorem lk_insL_e (M : lk_M) (p k n : Nat) (a b : Int32) : lk_st (lk_st (lk_st (lk_insL M p k n 0) 7 (5 * p + k) a) 8 (5 * p + k) b) 5 p (nI (n + 1)) = lk_ins M p k n a b := by
  funext f i
  unfold lk_insL lk_ins
  simp only [lk_st_eq, lk_up_eq, lk_shR, lk_pR, upd, Nat.add_zero]
  by_cases h5 : f = 5
  · subst h5; simp
  · by_cases h8 : f = 8
    · subst h8; simp
    · by_cases h7 : f = 7
      · subst h7; simp
      · simp [h5, h8, h7]
section
variable {pg : Program} {l : Launch} {en : Env} {R : Room} {s : State} {m : MethodId} {args : Array Value} {below : List Frame} {meth : Method} {cd : Code} {H : Heap} {locs : List Loc} {cells slots : Nat} {Q : State → Prop} {D : va_G} {τ : Nat → ClassId} {ad : Nat → Nat} {A : Nat → Prop} {H0 : Heap} {M : lk_M}
theorem w_MO_insert (X : lk_X pg s m args meth cd y_MO_insert b_MO_insert 6 (none) D τ) {p k n : Nat} {a b : Int32} (hp : p < 24) (hc : M 5 p = nI n) (hk : k ≤ n) (hn : n ≤ 4) : ∀ (r : Nat), k + r ≤ n → ∀ (H : Heap) (locs : List Loc) (ls : Array Slot), lk_H D lk_cl A H0 (lk_w 25 ad (lk_me τ ad (lk_insL M p k n r))) H locs → lv_has ls 6 [(5, .int (nI (5 * p + k + r))), (0, .ref (ad 0)), (1, .int (nI p)), (2, .int (nI k)), (3, .int a), (4, .int b)] → (∀ (H : Heap) (locs : List Loc) (ls : Array Slot), lk_H D lk_cl A H0 (lk_w 25 ad (lk_me τ ad (lk_insL M p k n 0))) H locs → lv_has ls 6 [(5, .int (nI (5 * p + k + 0))), (0, .ref (ad 0)), (1, .int (nI p)), (2, .int (nI k)), (3, .int a), (4, .int b)] → W pg l en R s m args below meth cd H locs cells slots Q (F0 m 60 ls [])) → W pg l en R s m args below meth cd H locs cells slots Q (F0 m 12 ls []) := by
  obtain ⟨hx, hb, -⟩ := id X
  intro r
  induction r with
  | zero =>
    intro hr H locs ls h hl kk
    refine lv_iload hx hb d_MO_insert_12 (lv_at hl 0 rfl) ?_
    refine lv_iconst (v := nI 5) hx hb d_MO_insert_14 (by decide) ?_
    refine lv_iload_n hx hb d_MO_insert_15 rfl (lv_at hl 2 rfl) ?_
    refine lk_imulN hx hb d_MO_insert_16 ?_
    refine lv_iload_n hx hb d_MO_insert_17 rfl (lv_at hl 3 rfl) ?_
    refine lk_iaddN hx hb d_MO_insert_18 ?_
    refine lk_cN_le (tgt := 60) hx hb (by omega) (by omega) d_MO_insert_19 (by decide) (fun h1 => ?_) (fun h1 => ?_)
    · exact kk H locs ls h hl
    · omega
  | succ r ih =>
    intro hr H locs ls h hl kk
    refine lv_iload hx hb d_MO_insert_12 (lv_at hl 0 rfl) ?_
    refine lv_iconst (v := nI 5) hx hb d_MO_insert_14 (by decide) ?_
    refine lv_iload_n hx hb d_MO_insert_15 rfl (lv_at hl 2 rfl) ?_
    refine lk_imulN hx hb d_MO_insert_16 ?_
    refine lv_iload_n hx hb d_MO_insert_17 rfl (lv_at hl 3 rfl) ?_
    refine lk_iaddN hx hb d_MO_insert_18 ?_
    refine lk_cN_le (tgt := 60) hx hb (by omega) (by omega) d_MO_insert_19 (by decide) (fun h1 => ?_) (fun h1 => ?_)
    · omega
    · refine lv_aload_n hx hb d_MO_insert_22 rfl (lv_at hl 1 rfl) ?_
      refine mo_get X rfl h 8 (by decide) rfl gf_MO_31 rfl d_MO_insert_23 ?_
      refine lv_iload hx hb d_MO_insert_26 (lv_at hl 0 rfl) ?_
      refine lv_aload_n hx hb d_MO_insert_28 rfl (lv_at hl 1 rfl) ?_
      refine mo_get X rfl h 8 (by decide) rfl gf_MO_31 rfl d_MO_insert_29 ?_
      refine lv_iload hx hb d_MO_insert_32 (lv_at hl 0 rfl) ?_
      refine lv_iconst (v := nI 1) hx hb d_MO_insert_34 (by decide) ?_
      refine lk_isubN hx hb (by omega) d_MO_insert_35 ?_
      refine mo_ald X h 7 120 rfl (by decide) (j := 5 * p + k + (r + 1) - 1) (by omega) (by decide) d_MO_insert_36 ?_
      refine mo_ast X h 7 120 rfl (by decide) (j := 5 * p + k + (r + 1)) (v := (lk_insL M p k n (r + 1)) 7 (5 * p + k + (r + 1) - 1)) (by omega) (by decide) d_MO_insert_37 (fun H locs h => ?_)
      refine lv_aload_n hx hb d_MO_insert_38 rfl (lv_at hl 1 rfl) ?_
      refine mo_get X rfl h 9 (by decide) rfl gf_MO_34 rfl d_MO_insert_39 ?_
      refine lv_iload hx hb d_MO_insert_42 (lv_at hl 0 rfl) ?_
      refine lv_aload_n hx hb d_MO_insert_44 rfl (lv_at hl 1 rfl) ?_
      refine mo_get X rfl h 9 (by decide) rfl gf_MO_34 rfl d_MO_insert_45 ?_
      refine lv_iload hx hb d_MO_insert_48 (lv_at hl 0 rfl) ?_
      refine lv_iconst (v := nI 1) hx hb d_MO_insert_50 (by decide) ?_
      refine lk_isubN hx hb (by omega) d_MO_insert_51 ?_
      refine mo_ald X h 8 120 rfl (by decide) (j := 5 * p + k + (r + 1) - 1) (by omega) (by decide) d_MO_insert_52 ?_
      refine lk_top ((lk_insL M p k n (r + 1)) 8 (5 * p + k + (r + 1) - 1)) (lk_st_f (by decide)) ?_
      refine mo_ast X h 8 120 rfl (by decide) (j := 5 * p + k + (r + 1)) (v := (lk_insL M p k n (r + 1)) 8 (5 * p + k + (r + 1) - 1)) (by omega) (by decide) d_MO_insert_53 (fun H locs h => ?_)
      refine lv_iinc (k := 0) (v := nI (5 * p + k + r)) hx hb d_MO_insert_54 hl rfl (pk_m1 _) (by decide) rfl (fun ls hl => ?_)
      have hl : lv_has ls 6 [(5, .int (nI (5 * p + k + r))), (0, .ref (ad 0)), (1, .int (nI p)), (2, .int (nI k)), (3, .int a), (4, .int b)] := hl
      refine lv_goto (tgt := 12) hx hb d_MO_insert_57 (by decide) ?_
      rw [lk_insL_s M hr] at h
      exact ih (by omega) H locs ls h hl kk
end
set_option maxRecDepth 20000 in
theorem c_MO_insert (l : Launch) (D : va_G) (τ : Nat → ClassId) (ad : Nat → Nat) (M : lk_M) (p k n : Nat) (hp : p < 24) (hc : M 5 p = nI n) (hk : k ≤ n) (hn : n ≤ 4) (a b : Int32) : lk_Cv l D τ 25 ad (lk_me τ ad) y_MO_insert b_MO_insert 6 0 0 [.ref (ad 0), .int (nI p), .int (nI k), .int a, .int b] M (fun M1 => M1 = lk_ins M p k n a b) := by
  refine lk_openv (by decide +kernel) (Nat.le_of_ble_eq_true rfl) ?_
  intro pg en s m args below meth cd ls A X h hA hl
  obtain ⟨hx, hb, -⟩ := id X
  have hl : lv_has ls 6 [(0, .ref (ad 0)), (1, .int (nI p)), (2, .int (nI k)), (3, .int a), (4, .int b)] := hl
  refine lv_iconst (v := nI 5) hx hb d_MO_insert_0 (by decide) ?_
  refine lv_iload_n hx hb d_MO_insert_1 rfl (lv_at hl 1 rfl) ?_
  refine lk_imulN hx hb d_MO_insert_2 ?_
  refine lv_aload_n hx hb d_MO_insert_3 rfl (lv_at hl 0 rfl) ?_
  refine mo_get X rfl h 6 (by decide) rfl gf_MO_25 rfl d_MO_insert_4 ?_
  refine lv_iload_n hx hb d_MO_insert_7 rfl (lv_at hl 1 rfl) ?_
  refine mo_ald X h 5 24 rfl (by decide) (j := p) (by omega) (by decide) d_MO_insert_8 ?_
  refine lk_top (nI n) (hc) ?_
  refine lk_iaddN hx hb d_MO_insert_9 ?_
  refine lv_istore hx hb d_MO_insert_10 hl (by decide) rfl (fun ls hl => ?_)
  have hl : lv_has ls 6 [(5, .int (nI (5 * p + n))), (0, .ref (ad 0)), (1, .int (nI p)), (2, .int (nI k)), (3, .int a), (4, .int b)] := hl
  obtain ⟨r, rfl⟩ : ∃ r, n = k + r := ⟨n - k, by omega⟩
  have hl : lv_has ls 6 [(5, .int (nI (5 * p + k + r))), (0, .ref (ad 0)), (1, .int (nI p)), (2, .int (nI k)), (3, .int a), (4, .int b)] := by rw [show 5 * p + k + r = 5 * p + (k + r) by omega]; exact hl
  refine w_MO_insert X hp hc hk hn r (Nat.le_refl _) _ _ ls (by rw [lk_insL_n M rfl]; exact h) hl (fun H locs ls h hl => ?_)
  have hc0 : lk_insL M p k (k + r) 0 5 p = nI (k + r) := (lk_insL_5 M p k (k + r) 0 p).trans hc
  refine lv_aload_n hx hb d_MO_insert_60 rfl (lv_at hl 1 rfl) ?_
  refine mo_get X rfl h 8 (by decide) rfl gf_MO_31 rfl d_MO_insert_61 ?_
  refine lv_iconst (v := nI 5) hx hb d_MO_insert_64 (by decide) ?_
  refine lv_iload_n hx hb d_MO_insert_65 rfl (lv_at hl 2 rfl) ?_
  refine lk_imulN hx hb d_MO_insert_66 ?_
  refine lv_iload_n hx hb d_MO_insert_67 rfl (lv_at hl 3 rfl) ?_
  refine lk_iaddN hx hb d_MO_insert_68 ?_
  refine lv_iload_n hx hb d_MO_insert_69 rfl (lv_at hl 4 rfl) ?_
  refine mo_ast X h 7 120 rfl (by decide) (j := 5 * p + k) (v := a) (by omega) (by decide) d_MO_insert_70 (fun H locs h => ?_)
  refine lv_aload_n hx hb d_MO_insert_71 rfl (lv_at hl 1 rfl) ?_
  refine mo_get X rfl h 9 (by decide) rfl gf_MO_34 rfl d_MO_insert_72 ?_
  refine lv_iconst (v := nI 5) hx hb d_MO_insert_75 (by decide) ?_
  refine lv_iload_n hx hb d_MO_insert_76 rfl (lv_at hl 2 rfl) ?_
  refine lk_imulN hx hb d_MO_insert_77 ?_
  refine lv_iload_n hx hb d_MO_insert_78 rfl (lv_at hl 3 rfl) ?_
  refine lk_iaddN hx hb d_MO_insert_79 ?_
  refine lv_iload hx hb d_MO_insert_80 (lv_at hl 5 rfl) ?_
  refine mo_ast X h 8 120 rfl (by decide) (j := 5 * p + k) (v := b) (by omega) (by decide) d_MO_insert_82 (fun H locs h => ?_)
  refine lv_aload_n hx hb d_MO_insert_83 rfl (lv_at hl 1 rfl) ?_
  refine mo_get X rfl h 6 (by decide) rfl gf_MO_25 rfl d_MO_insert_84 ?_
  refine lv_iload_n hx hb d_MO_insert_87 rfl (lv_at hl 2 rfl) ?_
  refine lv_dup2_11 hx hb d_MO_insert_88 rfl rfl ?_
  refine mo_ald X h 5 24 rfl (by decide) (j := p) (by omega) (by decide) d_MO_insert_89 ?_
  refine lk_top (nI (k + r)) ((lk_st_f (by decide)).trans ((lk_st_f (by decide)).trans (hc0))) ?_
  refine lv_iconst (v := nI 1) hx hb d_MO_insert_90 (by decide) ?_
  refine lk_iaddN hx hb d_MO_insert_91 ?_
  refine mo_ast X h 5 24 rfl (by decide) (j := p) (v := nI (k + r + 1)) (by omega) (by decide) d_MO_insert_92 (fun H locs h => ?_)
  exact lk_retv X h d_MO_insert_93 (lk_insL_e M p k (k + r) a b)
def lk_delL (M : lk_M) (p k n j : Nat) : lk_M := va_up (va_up (lk_st M 5 p (nI (n - 1))) 7 (lk_shL (M 7) (5 * p + k) (5 * p + k + j))) 8 (lk_shL (M 8) (5 * p + k) (5 * p + k + j))
theorem lk_shL_id (f : Nat → Int32) (lo : Nat) : lk_shL f lo (lo + 0) = f := by
  funext i
  unfold lk_shL
  rw [if_neg (by omega)]
theorem lk_delL_0 (M : lk_M) (p k n : Nat) : lk_delL M p k n 0 = lk_st M 5 p (nI (n - 1)) := by
  unfold lk_delL
  rw [lk_shL_id, lk_shL_id]
  funext f i
  simp only [lk_st_eq, lk_up_eq]
  by_cases h8 : f = 8
  · subst h8; simp
  · by_cases h7 : f = 7
    · subst h7; simp
    · simp [h8, h7]
theorem lk_shL_s (f : Nat → Int32) (lo j i : Nat) : (if i = lo + j then lk_shL f lo (lo + j) (lo + j + 1) else lk_shL f lo (lo + j) i) = lk_shL f lo (lo + (j + 1)) i := by
  unfold lk_shL
  by_cases h2 : i = lo + j
  · subst h2
    rw [if_pos rfl, if_neg (by omega), if_pos (by omega)]
  · rw [if_neg h2]
    by_cases h3 : lo ≤ i ∧ i < lo + j
    · rw [if_pos h3, if_pos (by omega)]
    · rw [if_neg h3, if_neg (by omega)]
theorem lk_delL_s (M : lk_M) (p k n j : Nat) : lk_st (lk_st (lk_delL M p k n j) 7 (5 * p + k + j) (lk_delL M p k n j 7 (5 * p + k + j + 1))) 8 (5 * p + k + j) (lk_delL M p k n j 8 (5 * p + k + j + 1)) = lk_delL M p k n (j + 1) := by
  funext f i
  unfold lk_delL
  simp only [lk_st_eq, lk_up_eq]
  by_cases h8 : f = 8
  · subst h8
    have := lk_shL_s (M 8) (5 * p + k) j i
    simpa using this
  · by_cases h7 : f = 7
    · subst h7
      have := lk_shL_s (M 7) (5 * p + k) j i
      simpa using this
    · simp [h8, h7]
theorem lk_delL_5 (M : lk_M) (p k n j : Nat) : lk_delL M p k n j 5 p = nI (n - 1) := by
  unfold lk_delL
  simp [lk_up_eq, lk_st_eq]
theorem lk_delL_e (M : lk_M) {p k n j : Nat} (h : k + j = n - 1) : lk_delL M p k n j = lk_del M p k n := by
  funext f i
  unfold lk_delL lk_del
  rw [show 5 * p + k + j = 5 * p + (n - 1) by omega]
  simp only [lk_st_eq, lk_up_eq, upd]
  by_cases h8 : f = 8
  · subst h8; simp
  · by_cases h7 : f = 7
    · subst h7; simp
    · by_cases h5 : f = 5
      · subst h5; simp
      · simp [h8, h7, h5]
section
variable {pg : Program} {l : Launch} {en : Env} {R : Room} {s : State} {m : MethodId} {args : Array Value} {below : List Frame} {meth : Method} {cd : Code} {H : Heap} {locs : List Loc} {cells slots : Nat} {Q : State → Prop} {D : va_G} {τ : Nat → ClassId} {ad : Nat → Nat} {A : Nat → Prop} {H0 : Heap} {M : lk_M}
theorem w_MO_takeOut (X : lk_X pg s m args meth cd y_MO_takeOut b_MO_takeOut 4 (none) D τ) {p k n : Nat} (hp : p < 24) (hk : k < n) (hn : n ≤ 5) : ∀ (r j : Nat), k + j + r = n - 1 → ∀ (H : Heap) (locs : List Loc) (ls : Array Slot), lk_H D lk_cl A H0 (lk_w 25 ad (lk_me τ ad (lk_delL M p k n j))) H locs → lv_has ls 4 [(3, .int (nI (5 * p + k + j))), (0, .ref (ad 0)), (1, .int (nI p)), (2, .int (nI k))] → (∀ (H : Heap) (locs : List Loc) (ls : Array Slot), lk_H D lk_cl A H0 (lk_w 25 ad (lk_me τ ad (lk_del M p k n))) H locs → W pg l en R s m args below meth cd H locs cells slots Q (F0 m 64 ls [])) → W pg l en R s m args below meth cd H locs cells slots Q (F0 m 16 ls []) := by
  obtain ⟨hx, hb, -⟩ := id X
  intro r
  induction r with
  | zero =>
    intro j hj H locs ls h hl kk
    have hc := lk_delL_5 M p k n j
    refine lv_iload_n hx hb d_MO_takeOut_16 rfl (lv_at hl 0 rfl) ?_
    refine lv_iconst (v := nI 5) hx hb d_MO_takeOut_17 (by decide) ?_
    refine lv_iload_n hx hb d_MO_takeOut_18 rfl (lv_at hl 2 rfl) ?_
    refine lk_imulN hx hb d_MO_takeOut_19 ?_
    refine lv_aload_n hx hb d_MO_takeOut_20 rfl (lv_at hl 1 rfl) ?_
    refine mo_get X rfl h 6 (by decide) rfl gf_MO_25 rfl d_MO_takeOut_21 ?_
    refine lv_iload_n hx hb d_MO_takeOut_24 rfl (lv_at hl 2 rfl) ?_
    refine mo_ald X h 5 24 rfl (by decide) (j := p) (by omega) (by decide) d_MO_takeOut_25 ?_
    refine lk_top (nI (n - 1)) (hc) ?_
    refine lk_iaddN hx hb d_MO_takeOut_26 ?_
    refine lk_cN_ge (tgt := 64) hx hb (by omega) (by omega) d_MO_takeOut_27 (by decide) (fun h1 => ?_) (fun h1 => ?_)
    · rw [lk_delL_e M (by omega)] at h
      exact kk H locs ls h
    · omega
  | succ r ih =>
    intro j hj H locs ls h hl kk
    have hc := lk_delL_5 M p k n j
    refine lv_iload_n hx hb d_MO_takeOut_16 rfl (lv_at hl 0 rfl) ?_
    refine lv_iconst (v := nI 5) hx hb d_MO_takeOut_17 (by decide) ?_
    refine lv_iload_n hx hb d_MO_takeOut_18 rfl (lv_at hl 2 rfl) ?_
    refine lk_imulN hx hb d_MO_takeOut_19 ?_
    refine lv_aload_n hx hb d_MO_takeOut_20 rfl (lv_at hl 1 rfl) ?_
    refine mo_get X rfl h 6 (by decide) rfl gf_MO_25 rfl d_MO_takeOut_21 ?_
    refine lv_iload_n hx hb d_MO_takeOut_24 rfl (lv_at hl 2 rfl) ?_
    refine mo_ald X h 5 24 rfl (by decide) (j := p) (by omega) (by decide) d_MO_takeOut_25 ?_
    refine lk_top (nI (n - 1)) (hc) ?_
    refine lk_iaddN hx hb d_MO_takeOut_26 ?_
    refine lk_cN_ge (tgt := 64) hx hb (by omega) (by omega) d_MO_takeOut_27 (by decide) (fun h1 => ?_) (fun h1 => ?_)
    · omega
    · refine lv_aload_n hx hb d_MO_takeOut_30 rfl (lv_at hl 1 rfl) ?_
      refine mo_get X rfl h 8 (by decide) rfl gf_MO_31 rfl d_MO_takeOut_31 ?_
      refine lv_iload_n hx hb d_MO_takeOut_34 rfl (lv_at hl 0 rfl) ?_
      refine lv_aload_n hx hb d_MO_takeOut_35 rfl (lv_at hl 1 rfl) ?_
      refine mo_get X rfl h 8 (by decide) rfl gf_MO_31 rfl d_MO_takeOut_36 ?_
      refine lv_iload_n hx hb d_MO_takeOut_39 rfl (lv_at hl 0 rfl) ?_
      refine lv_iconst (v := nI 1) hx hb d_MO_takeOut_40 (by decide) ?_
      refine lk_iaddN hx hb d_MO_takeOut_41 ?_
      refine mo_ald X h 7 120 rfl (by decide) (j := 5 * p + k + j + 1) (by omega) (by decide) d_MO_takeOut_42 ?_
      refine mo_ast X h 7 120 rfl (by decide) (j := 5 * p + k + j) (v := (lk_delL M p k n j) 7 (5 * p + k + j + 1)) (by omega) (by decide) d_MO_takeOut_43 (fun H locs h => ?_)
      refine lv_aload_n hx hb d_MO_takeOut_44 rfl (lv_at hl 1 rfl) ?_
      refine mo_get X rfl h 9 (by decide) rfl gf_MO_34 rfl d_MO_takeOut_45 ?_
      refine lv_iload_n hx hb d_MO_takeOut_48 rfl (lv_at hl 0 rfl) ?_
      refine lv_aload_n hx hb d_MO_takeOut_49 rfl (lv_at hl 1 rfl) ?_
      refine mo_get X rfl h 9 (by decide) rfl gf_MO_34 rfl d_MO_takeOut_50 ?_
      refine lv_iload_n hx hb d_MO_takeOut_53 rfl (lv_at hl 0 rfl) ?_
      refine lv_iconst (v := nI 1) hx hb d_MO_takeOut_54 (by decide) ?_
      refine lk_iaddN hx hb d_MO_takeOut_55 ?_
      refine mo_ald X h 8 120 rfl (by decide) (j := 5 * p + k + j + 1) (by omega) (by decide) d_MO_takeOut_56 ?_
      refine lk_top ((lk_delL M p k n j) 8 (5 * p + k + j + 1)) (lk_st_f (by decide)) ?_
      refine mo_ast X h 8 120 rfl (by decide) (j := 5 * p + k + j) (v := (lk_delL M p k n j) 8 (5 * p + k + j + 1)) (by omega) (by decide) d_MO_takeOut_57 (fun H locs h => ?_)
      refine lv_iinc (k := 0) (v := nI (5 * p + k + j + 1)) hx hb d_MO_takeOut_58 hl rfl (nI_1 _) (by decide) rfl (fun ls hl => ?_)
      have hl : lv_has ls 4 [(3, .int (nI (5 * p + k + j + 1))), (0, .ref (ad 0)), (1, .int (nI p)), (2, .int (nI k))] := hl
      refine lv_goto (tgt := 16) hx hb d_MO_takeOut_61 (by decide) ?_
      rw [lk_delL_s] at h
      exact ih (j + 1) (by omega) H locs ls h hl kk
end
set_option maxRecDepth 20000 in
theorem c_MO_takeOut (l : Launch) (D : va_G) (τ : Nat → ClassId) (ad : Nat → Nat) (M : lk_M) (p k n : Nat) (hp : p < 24) (hc : M 5 p = nI n) (hk : k < n) (hn : n ≤ 5) : lk_Cv l D τ 25 ad (lk_me τ ad) y_MO_takeOut b_MO_takeOut 4 0 0 [.ref (ad 0), .int (nI p), .int (nI k)] M (fun M1 => M1 = lk_del M p k n) := by
  refine lk_openv (by decide +kernel) (Nat.le_of_ble_eq_true rfl) ?_
  intro pg en s m args below meth cd ls A X h hA hl
  obtain ⟨hx, hb, -⟩ := id X
  have hl : lv_has ls 4 [(0, .ref (ad 0)), (1, .int (nI p)), (2, .int (nI k))] := hl
  refine lv_aload_n hx hb d_MO_takeOut_0 rfl (lv_at hl 0 rfl) ?_
  refine mo_get X rfl h 6 (by decide) rfl gf_MO_25 rfl d_MO_takeOut_1 ?_
  refine lv_iload_n hx hb d_MO_takeOut_4 rfl (lv_at hl 1 rfl) ?_
  refine lv_dup2_11 hx hb d_MO_takeOut_5 rfl rfl ?_
  refine mo_ald X h 5 24 rfl (by decide) (j := p) (by omega) (by decide) d_MO_takeOut_6 ?_
  refine lk_top (nI n) (hc) ?_
  refine lv_iconst (v := nI 1) hx hb d_MO_takeOut_7 (by decide) ?_
  refine lk_isubN hx hb (by omega) d_MO_takeOut_8 ?_
  refine mo_ast X h 5 24 rfl (by decide) (j := p) (v := nI (n - 1)) (by omega) (by decide) d_MO_takeOut_9 (fun H locs h => ?_)
  refine lv_iconst (v := nI 5) hx hb d_MO_takeOut_10 (by decide) ?_
  refine lv_iload_n hx hb d_MO_takeOut_11 rfl (lv_at hl 1 rfl) ?_
  refine lk_imulN hx hb d_MO_takeOut_12 ?_
  refine lv_iload_n hx hb d_MO_takeOut_13 rfl (lv_at hl 2 rfl) ?_
  refine lk_iaddN hx hb d_MO_takeOut_14 ?_
  refine lv_istore_n hx hb d_MO_takeOut_15 rfl hl (by decide) rfl (fun ls hl => ?_)
  have hl : lv_has ls 4 [(3, .int (nI (5 * p + k))), (0, .ref (ad 0)), (1, .int (nI p)), (2, .int (nI k))] := hl
  refine w_MO_takeOut X hp hk hn (n - 1 - k) 0 (by omega) _ _ ls (by rw [lk_delL_0]; exact h) hl (fun H locs ls h => ?_)
  exact lk_retv X h d_MO_takeOut_64 (rfl)
