set_option maxRecDepth 20000 in
theorem c_MO_goRight (l : Launch) (D : va_G) (τ : Nat → ClassId) (ad : Nat → Nat) (M : lk_M) (t p : Nat) (ht : t < 4) (hp : p < 24) (hpl : M 14 t = nI p) : lk_Cv l D τ 25 ad (lk_me τ ad) y_MO_goRight b_MO_goRight 2 0 0 [.ref (ad 0), .int (nI t)] M (fun M1 => M1 = lk_rgt M t p) := by
  refine lk_openv (by decide +kernel) (Nat.le_of_ble_eq_true rfl) ?_
  intro pg en s m args below meth cd ls A X h hA hl
  obtain ⟨hx, hb, -⟩ := id X
  have hl : lv_has ls 2 [(0, .ref (ad 0)), (1, .int (nI t))] := hl
  refine lv_aload_n hx hb d_MO_goRight_0 rfl (lv_at hl 0 rfl) ?_
  refine mo_get X rfl h 17 (by decide) rfl gf_MO_53 rfl d_MO_goRight_1 ?_
  refine lv_iload_n hx hb d_MO_goRight_4 rfl (lv_at hl 1 rfl) ?_
  refine lv_aload_n hx hb d_MO_goRight_5 rfl (lv_at hl 0 rfl) ?_
  refine mo_get X rfl h 5 (by decide) rfl gf_MO_22 rfl d_MO_goRight_6 ?_
  refine lv_aload_n hx hb d_MO_goRight_9 rfl (lv_at hl 0 rfl) ?_
  refine mo_get X rfl h 17 (by decide) rfl gf_MO_53 rfl d_MO_goRight_10 ?_
  refine lv_iload_n hx hb d_MO_goRight_13 rfl (lv_at hl 1 rfl) ?_
  refine mo_ald X h 14 4 rfl (by decide) (j := t) (by omega) (by decide) d_MO_goRight_14 ?_
  refine lk_top (nI p) (hpl) ?_
  refine mo_ald X h 4 24 rfl (by decide) (j := p) (by omega) (by decide) d_MO_goRight_15 ?_
  refine mo_ast X h 14 4 rfl (by decide) (j := t) (v := M 4 p) (by omega) (by decide) d_MO_goRight_16 (fun H locs h => ?_)
  refine lv_aload_n hx hb d_MO_goRight_17 rfl (lv_at hl 0 rfl) ?_
  refine mo_get X rfl h 25 (by decide) rfl gf_MO_77 rfl d_MO_goRight_18 ?_
  refine lv_iconst (v := nI 4) hx hb d_MO_goRight_21 (by decide) ?_
  refine lv_iload_n hx hb d_MO_goRight_22 rfl (lv_at hl 1 rfl) ?_
  refine lk_imulN hx hb d_MO_goRight_23 ?_
  refine lv_iconst (v := nI 2) hx hb d_MO_goRight_24 (by decide) ?_
  refine lk_iaddN hx hb d_MO_goRight_25 ?_
  refine lv_dup2_11 hx hb d_MO_goRight_26 rfl rfl ?_
  refine mo_ald X h 22 16 rfl (by decide) (j := 4 * t + 2) (by omega) (by decide) d_MO_goRight_27 ?_
  refine lk_top (M 22 (4 * t + 2)) (lk_st_f (by decide)) ?_
  refine lv_iconst (v := 1) hx hb d_MO_goRight_28 (by decide) ?_
  refine lv_iadd hx hb d_MO_goRight_29 ?_
  refine mo_ast X h 22 16 rfl (by decide) (j := 4 * t + 2) (v := (M 22 (4 * t + 2)) + 1) (by omega) (by decide) d_MO_goRight_30 (fun H locs h => ?_)
  exact lk_retv X h d_MO_goRight_31 (rfl)
def mm_locks (σ : lk_M) (t p : Nat) : Int32 × lk_M := if σ 6 p = -1 then (0, lk_st (lk_st σ 6 p (nI t)) 13 t 2) else (1, σ)
set_option maxRecDepth 20000 in
theorem c_MO_locks (l : Launch) (D : va_G) (τ : Nat → ClassId) (ad : Nat → Nat) (M : lk_M) (t p : Nat) (ht : t < 4) (hp : p < 24) (hpl : M 14 t = nI p) : lk_Ci l D τ 25 ad (lk_me τ ad) y_MO_locks b_MO_locks 3 (.int) 0 0 [.ref (ad 0), .int (nI t)] M (fun r M1 => r = (mm_locks M t p).1 ∧ M1 = (mm_locks M t p).2) := by
  refine lk_openi (by decide +kernel) (Nat.le_of_ble_eq_true rfl) ?_
  intro pg en s m args below meth cd ls A X h hA hl
  obtain ⟨hx, hb, -⟩ := id X
  have hl : lv_has ls 3 [(0, .ref (ad 0)), (1, .int (nI t))] := hl
  refine lv_aload_n hx hb d_MO_locks_0 rfl (lv_at hl 0 rfl) ?_
  refine mo_get X rfl h 17 (by decide) rfl gf_MO_53 rfl d_MO_locks_1 ?_
  refine lv_iload_n hx hb d_MO_locks_4 rfl (lv_at hl 1 rfl) ?_
  refine mo_ald X h 14 4 rfl (by decide) (j := t) (by omega) (by decide) d_MO_locks_5 ?_
  refine lk_top (nI p) (hpl) ?_
  refine lv_istore_n hx hb d_MO_locks_6 rfl hl (by decide) rfl (fun ls hl => ?_)
  have hl : lv_has ls 3 [(2, .int (nI p)), (0, .ref (ad 0)), (1, .int (nI t))] := hl
  refine lv_aload_n hx hb d_MO_locks_7 rfl (lv_at hl 1 rfl) ?_
  refine mo_get X rfl h 7 (by decide) rfl gf_MO_28 rfl d_MO_locks_8 ?_
  refine lv_iload_n hx hb d_MO_locks_11 rfl (lv_at hl 0 rfl) ?_
  refine mo_ald X h 6 24 rfl (by decide) (j := p) (by omega) (by decide) d_MO_locks_12 ?_
  refine lv_iconst (v := (-1)) hx hb d_MO_locks_13 (by decide) ?_
  refine lv_icmp_eq (tgt := 19) hx hb d_MO_locks_14 (by decide) (fun h1 => ?_) (fun h1 => ?_)
  · refine lv_aload_n hx hb d_MO_locks_19 rfl (lv_at hl 1 rfl) ?_
    refine mo_get X rfl h 7 (by decide) rfl gf_MO_28 rfl d_MO_locks_20 ?_
    refine lv_iload_n hx hb d_MO_locks_23 rfl (lv_at hl 0 rfl) ?_
    refine lv_iload_n hx hb d_MO_locks_24 rfl (lv_at hl 2 rfl) ?_
    refine mo_ast X h 6 24 rfl (by decide) (j := p) (v := nI t) (by omega) (by decide) d_MO_locks_25 (fun H locs h => ?_)
    refine lv_aload_n hx hb d_MO_locks_26 rfl (lv_at hl 1 rfl) ?_
    refine mo_get X rfl h 16 (by decide) rfl gf_MO_50 rfl d_MO_locks_27 ?_
    refine lv_iload_n hx hb d_MO_locks_30 rfl (lv_at hl 2 rfl) ?_
    refine lv_iconst (v := 2) hx hb d_MO_locks_31 (by decide) ?_
    refine mo_ast X h 13 4 rfl (by decide) (j := t) (v := 2) (by omega) (by decide) d_MO_locks_32 (fun H locs h => ?_)
    refine lv_iconst (v := 0) hx hb d_MO_locks_33 (by decide) ?_
    exact lk_reti X h d_MO_locks_34 (by rw [mm_locks, if_pos h1]; exact ⟨rfl, rfl⟩)
  · refine lv_iconst (v := 1) hx hb d_MO_locks_17 (by decide) ?_
    exact lk_reti X h d_MO_locks_18 (by rw [mm_locks, if_neg h1]; exact ⟨rfl, rfl⟩)
def lk_ch (σ : lk_M) (p n : Nat) (x : Int32) : Nat := lk_ff (σ 8) x n (5 * p) - 5 * p
section
variable {pg : Program} {l : Launch} {en : Env} {R : Room} {s : State} {m : MethodId} {args : Array Value} {below : List Frame} {meth : Method} {cd : Code} {H : Heap} {locs : List Loc} {cells slots : Nat} {Q : State → Prop} {D : va_G} {τ : Nat → ClassId} {ad : Nat → Nat} {A : Nat → Prop} {H0 : Heap} {M : lk_M}
theorem w_MO_childOf (X : lk_X pg s m args meth cd y_MO_childOf b_MO_childOf 4 (some (.int)) D τ) (h : lk_H D lk_cl A s.heap (lk_w 25 ad (lk_me τ ad M)) H locs) {post : Int32 → lk_M → Prop} {q n : Nat} {x : Int32} (hq : q < 24) (hc : M 5 q = nI n) (hn : n ≤ 5) : ∀ (r i : Nat), i + r = n → post (lk_nn (lk_ff (M 8) x r (5 * q + i) - 5 * q) n) M → ∀ ls : Array Slot, lv_has ls 4 [(3, .int (nI i)), (0, .ref (ad 0)), (1, .int (nI q)), (2, .int x)] → W pg l en R s m args below meth cd H locs 0 0 (MQ below (va_Qi post (lk_Bh D τ 25 ad (lk_me τ ad)) A) args s 0 0 A) (F0 m 2 ls []) := by
  obtain ⟨hx, hb, -⟩ := id X
  intro r
  induction r with
  | zero =>
    intro i hi hp ls hl
    have e1 : lk_nn (lk_ff (M 8) x 0 (5 * q + i) - 5 * q) n = -1 := if_neg (by show ¬ 5 * q + i - 5 * q < n; omega)
    rw [e1] at hp
    refine lv_iload_n hx hb d_MO_childOf_2 rfl (lv_at hl 0 rfl) ?_
    refine lv_aload_n hx hb d_MO_childOf_3 rfl (lv_at hl 1 rfl) ?_
    refine mo_get X rfl h 6 (by decide) rfl gf_MO_25 rfl d_MO_childOf_4 ?_
    refine lv_iload_n hx hb d_MO_childOf_7 rfl (lv_at hl 2 rfl) ?_
    refine mo_ald X h 5 24 rfl (by decide) (j := q) (by omega) (by decide) d_MO_childOf_8 ?_
    refine lk_top (nI n) (hc) ?_
    refine lk_cN_ge (tgt := 34) hx hb (by omega) (by omega) d_MO_childOf_9 (by decide) (fun h1 => ?_) (fun h1 => ?_)
    · refine lv_iconst (v := (-1)) hx hb d_MO_childOf_34 (by decide) ?_
      exact lk_reti X h d_MO_childOf_35 (hp)
    · omega
  | succ r ih =>
    intro i hi hp ls hl
    have e0 : lk_ff (M 8) x (r + 1) (5 * q + i) = if M 8 (5 * q + i) = x then 5 * q + i else lk_ff (M 8) x r (5 * q + i + 1) := rfl
    refine lv_iload_n hx hb d_MO_childOf_2 rfl (lv_at hl 0 rfl) ?_
    refine lv_aload_n hx hb d_MO_childOf_3 rfl (lv_at hl 1 rfl) ?_
    refine mo_get X rfl h 6 (by decide) rfl gf_MO_25 rfl d_MO_childOf_4 ?_
    refine lv_iload_n hx hb d_MO_childOf_7 rfl (lv_at hl 2 rfl) ?_
    refine mo_ald X h 5 24 rfl (by decide) (j := q) (by omega) (by decide) d_MO_childOf_8 ?_
    refine lk_top (nI n) (hc) ?_
    refine lk_cN_ge (tgt := 34) hx hb (by omega) (by omega) d_MO_childOf_9 (by decide) (fun h1 => ?_) (fun h1 => ?_)
    · omega
    · refine lv_aload_n hx hb d_MO_childOf_12 rfl (lv_at hl 1 rfl) ?_
      refine mo_get X rfl h 9 (by decide) rfl gf_MO_34 rfl d_MO_childOf_13 ?_
      refine lv_iconst (v := nI 5) hx hb d_MO_childOf_16 (by decide) ?_
      refine lv_iload_n hx hb d_MO_childOf_17 rfl (lv_at hl 2 rfl) ?_
      refine lk_imulN hx hb d_MO_childOf_18 ?_
      refine lv_iload_n hx hb d_MO_childOf_19 rfl (lv_at hl 0 rfl) ?_
      refine lk_iaddN hx hb d_MO_childOf_20 ?_
      refine mo_ald X h 8 120 rfl (by decide) (j := 5 * q + i) (by omega) (by decide) d_MO_childOf_21 ?_
      refine lv_iload_n hx hb d_MO_childOf_22 rfl (lv_at hl 3 rfl) ?_
      refine lv_icmp_ne (tgt := 28) hx hb d_MO_childOf_23 (by decide) (fun h2 => ?_) (fun h2 => ?_)
      · refine lv_iinc (k := 0) (v := nI (i + 1)) hx hb d_MO_childOf_28 hl rfl (nI_1 _) (by decide) rfl (fun ls hl => ?_)
        have hl : lv_has ls 4 [(3, .int (nI (i + 1))), (0, .ref (ad 0)), (1, .int (nI q)), (2, .int x)] := hl
        refine lv_goto (tgt := 2) hx hb d_MO_childOf_31 (by decide) ?_
        refine ih (i + 1) (by omega) ?_ ls hl
        rw [e0, if_neg h2, show 5 * q + i + 1 = 5 * q + (i + 1) by omega] at hp
        exact hp
      · refine lv_iload_n hx hb d_MO_childOf_26 rfl (lv_at hl 0 rfl) ?_
        rw [e0, if_pos h2] at hp
        have e1 : lk_nn (5 * q + i - 5 * q) n = nI i := by rw [show 5 * q + i - 5 * q = i by omega]; exact if_pos (by omega)
        rw [e1] at hp
        exact lk_reti X h d_MO_childOf_27 (hp)
end
set_option maxRecDepth 20000 in
theorem c_MO_childOf (l : Launch) (D : va_G) (τ : Nat → ClassId) (ad : Nat → Nat) (M : lk_M) (q n : Nat) (hq : q < 24) (hc : M 5 q = nI n) (hn : n ≤ 5) (x : Int32) : lk_Ci l D τ 25 ad (lk_me τ ad) y_MO_childOf b_MO_childOf 4 (.int) 0 0 [.ref (ad 0), .int (nI q), .int x] M (fun r M1 => r = lk_nn (lk_ch M q n x) n ∧ M1 = M) := by
  refine lk_openi (by decide +kernel) (Nat.le_of_ble_eq_true rfl) ?_
  intro pg en s m args below meth cd ls A X h hA hl
  obtain ⟨hx, hb, -⟩ := id X
  have hl : lv_has ls 4 [(0, .ref (ad 0)), (1, .int (nI q)), (2, .int x)] := hl
  refine lv_iconst (v := nI 0) hx hb d_MO_childOf_0 (by decide) ?_
  refine lv_istore_n hx hb d_MO_childOf_1 rfl hl (by decide) rfl (fun ls hl => ?_)
  have hl : lv_has ls 4 [(3, .int (nI 0)), (0, .ref (ad 0)), (1, .int (nI q)), (2, .int x)] := hl
  exact w_MO_childOf X h hq hc hn n 0 (by omega) ⟨rfl, rfl⟩ ls hl
theorem lk_in24 {x : Int32} (h : 0 ≤ x ∧ x ≤ 23) : ∃ j : Nat, j < 24 ∧ x = nI j := by
  obtain ⟨j, h1, h2⟩ := nI_of2 (x := x) (M := 23) (n := 23) (by decide) (Int32.not_lt.mpr h.1) h.2
  exact ⟨j, by omega, h2⟩
theorem lk_in24' {j : Nat} (h : j < 24) : 0 ≤ nI j ∧ nI j ≤ 23 := ⟨nI_pos' (by omega), nI_le (b := 23) (by omega) (by decide)⟩
theorem lk_in4 {x : Int32} (h : 0 ≤ x ∧ x ≤ 3) : ∃ j : Nat, j < 4 ∧ x = nI j := by
  obtain ⟨j, h1, h2⟩ := nI_of2 (x := x) (M := 3) (n := 3) (by decide) (Int32.not_lt.mpr h.1) h.2
  exact ⟨j, by omega, h2⟩
theorem lk_in4' {j : Nat} (h : j < 4) : 0 ≤ nI j ∧ nI j ≤ 3 := ⟨nI_pos' (by omega), nI_le (b := 3) (by omega) (by decide)⟩
def lk_isn (σ : lk_M) (x : Int32) : Prop := ∃ j : Nat, j < 24 ∧ x = nI j ∧ σ 0 j = 1
set_option maxRecDepth 20000 in
theorem c_MO_isNode (l : Launch) (D : va_G) (τ : Nat → ClassId) (ad : Nat → Nat) (M : lk_M) (x : Int32) : lk_Ci l D τ 25 ad (lk_me τ ad) y_MO_isNode b_MO_isNode 2 (.boolean) 1 22 [.ref (ad 0), .int x] M (fun r M1 => (r = 1 ∧ lk_isn M x ∨ r = 0 ∧ ¬ lk_isn M x) ∧ M1 = M) := by
  refine lk_openi (by decide +kernel) (Nat.le_of_ble_eq_true rfl) ?_
  intro pg en s m args below meth cd ls A X h hA hl
  obtain ⟨hx, hb, -⟩ := id X
  have hl : lv_has ls 2 [(0, .ref (ad 0)), (1, .int x)] := hl
  refine lv_iload_n hx hb d_MO_isNode_0 rfl (lv_at hl 1 rfl) ?_
  refine lv_iconst (v := 0) hx hb d_MO_isNode_1 (by decide) ?_
  refine lv_bipush (v := 23) hx hb d_MO_isNode_2 (by decide) ?_
  refine lk_goi (lk_runS (As := [.int x, .int 0, .int 23]) X h (c_MO_within l D τ ad M x 0 23) ⟨gc_MO_within, gm_MO_101, gn_MO, gd_MO_within, by decide, by decide⟩ gt_MO_within rfl hl.1 (Nat.le_of_ble_eq_true rfl) d_MO_isNode_4 ⟨Nat.zero_le _, Nat.zero_le _⟩) h hA (fun r4 σ4 H locs hk9 h => ?_)
  rw [hk9.2] at h
  rw [hk9.1]
  refine lv_if_eq (tgt := 24) hx hb d_MO_isNode_7 (by decide) (fun h1 => ?_) (fun h1 => ?_)
  · refine lv_iconst (v := 0) hx hb d_MO_isNode_24 (by decide) ?_
    exact lk_retz X h d_MO_isNode_25 (by decide) (⟨Or.inr ⟨rfl, fun ⟨j, h2, h3, _⟩ => lk_if0 h1 (by rw [h3]; exact lk_in24' h2)⟩, rfl⟩)
  · obtain ⟨j, hj, rfl⟩ := lk_in24 (lk_if1 h1)
    refine lv_aload_n hx hb d_MO_isNode_10 rfl (lv_at hl 0 rfl) ?_
    refine mo_get X rfl h 1 (by decide) rfl gf_MO_7 rfl d_MO_isNode_11 ?_
    refine lv_iload_n hx hb d_MO_isNode_14 rfl (lv_at hl 1 rfl) ?_
    refine mo_ald X h 0 24 rfl (by decide) (j := j) (by omega) (by decide) d_MO_isNode_15 ?_
    refine lv_iconst (v := 1) hx hb d_MO_isNode_16 (by decide) ?_
    refine lv_icmp_ne (tgt := 24) hx hb d_MO_isNode_17 (by decide) (fun h2 => ?_) (fun h2 => ?_)
    · refine lv_iconst (v := 0) hx hb d_MO_isNode_24 (by decide) ?_
      exact lk_retz X h d_MO_isNode_25 (by decide) (⟨Or.inr ⟨rfl, fun ⟨i, h3, h4, h5⟩ => h2 (by rw [(nI_eq (by omega) (by omega)).mp h4]; exact h5)⟩, rfl⟩)
    · refine lv_iconst (v := 1) hx hb d_MO_isNode_20 (by decide) ?_
      refine lv_goto (tgt := 25) hx hb d_MO_isNode_21 (by decide) ?_
      exact lk_retz X h d_MO_isNode_25 (by decide) (⟨Or.inl ⟨rfl, j, hj, rfl, h2⟩, rfl⟩)
set_option maxRecDepth 20000 in
theorem c_MO_restart (l : Launch) (D : va_G) (τ : Nat → ClassId) (ad : Nat → Nat) (M : lk_M) (t : Nat) (ht : t < 4) : lk_Ci l D τ 25 ad (lk_me τ ad) y_MO_restart b_MO_restart 2 (.int) 1 22 [.ref (ad 0), .int (nI t)] M (fun r M1 => r = 0 ∧ M1 = lk_rst M t) := by
  refine lk_openi (by decide +kernel) (Nat.le_of_ble_eq_true rfl) ?_
  intro pg en s m args below meth cd ls A X h hA hl
  obtain ⟨hx, hb, -⟩ := id X
  have hl : lv_has ls 2 [(0, .ref (ad 0)), (1, .int (nI t))] := hl
  refine lv_aload_n hx hb d_MO_restart_0 rfl (lv_at hl 0 rfl) ?_
  refine lv_iload_n hx hb d_MO_restart_1 rfl (lv_at hl 1 rfl) ?_
  refine lk_gov (lk_runV (As := [.int (nI t)]) (C := R_MO) X h (c_MO_forgetPath l D τ ad M t ht) ⟨gc_MO_forgetPath, gm_MO_105, gn_MO, gd_MO_forgetPath, by decide, by decide⟩ gi_MO_forgetPath gs_MO_forgetPath ⟨0, 4, _, _, _, lk_w_get (by decide), rfl⟩ rfl hl.1 (Nat.le_of_ble_eq_true rfl) d_MO_restart_2 ⟨Nat.zero_le _, Nat.zero_le _⟩) h hA (fun σ2 H locs hk9 h => ?_)
  rw [hk9] at h
  refine lv_aload_n hx hb d_MO_restart_5 rfl (lv_at hl 0 rfl) ?_
  refine lv_iload_n hx hb d_MO_restart_6 rfl (lv_at hl 1 rfl) ?_
  refine lv_aload_n hx hb d_MO_restart_7 rfl (lv_at hl 0 rfl) ?_
  refine mo_get X rfl h 11 (by decide) rfl gf_MO_108 rfl d_MO_restart_8 ?_
  refine lk_top (M 24 0) (rfl) ?_
  refine lk_gov (lk_runV (As := [.int (nI t), .int (M 24 0)]) (C := R_MO) X h (c_MO_search l D τ ad _ t ht _) ⟨gc_MO_search, gm_MO_111, gn_MO, gd_MO_search, by decide, by decide⟩ gi_MO_search gs_MO_search ⟨0, 4, _, _, _, lk_w_get (by decide), rfl⟩ rfl hl.1 (Nat.le_of_ble_eq_true rfl) d_MO_restart_11 ⟨Nat.zero_le _, Nat.zero_le _⟩) h hA (fun σ11 H locs hk9 h => ?_)
  rw [hk9] at h
  refine lv_aload_n hx hb d_MO_restart_14 rfl (lv_at hl 0 rfl) ?_
  refine mo_get X rfl h 25 (by decide) rfl gf_MO_77 rfl d_MO_restart_15 ?_
  refine lv_iconst (v := nI 4) hx hb d_MO_restart_18 (by decide) ?_
  refine lv_iload_n hx hb d_MO_restart_19 rfl (lv_at hl 1 rfl) ?_
  refine lk_imulN hx hb d_MO_restart_20 ?_
  refine lv_iconst (v := nI 3) hx hb d_MO_restart_21 (by decide) ?_
  refine lk_iaddN hx hb d_MO_restart_22 ?_
  refine lv_dup2_11 hx hb d_MO_restart_23 rfl rfl ?_
  refine mo_ald X h 22 16 rfl (by decide) (j := 4 * t + 3) (by omega) (by decide) d_MO_restart_24 ?_
  refine lk_top (M 22 (4 * t + 3)) (rfl) ?_
  refine lv_iconst (v := 1) hx hb d_MO_restart_25 (by decide) ?_
  refine lv_iadd hx hb d_MO_restart_26 ?_
  refine mo_ast X h 22 16 rfl (by decide) (j := 4 * t + 3) (v := (M 22 (4 * t + 3)) + 1) (by omega) (by decide) d_MO_restart_27 (fun H locs h => ?_)
  refine lv_iconst (v := 0) hx hb d_MO_restart_28 (by decide) ?_
  exact lk_reti X h d_MO_restart_29 (⟨rfl, rfl⟩)
def mm_finL (σ : lk_M) (t k : Nat) : lk_M :=
  va_up (va_up σ 9 (fun p => if p < k then σ 9 p &&& lk_off t else σ 9 p)) 0 (fun p => if p < k ∧ σ 0 p = 2 ∧ σ 9 p &&& lk_off t = 0 then 0 else σ 0 p)
def mm_fin (σ : lk_M) (t : Nat) (a : Int32) : lk_M := mm_finL (lk_st (lk_st (lk_st σ 21 t a) 20 t 1) 11 t 0) t 24
theorem mm_finL_0 (σ : lk_M) (t : Nat) : mm_finL σ t 0 = σ := by
  funext f i
  unfold mm_finL
  simp only [lk_up_eq]
  by_cases h0 : f = 0
  · subst h0; simp
  · by_cases h9 : f = 9
    · subst h9; simp
    · simp [h0, h9]
theorem mm_finL_s (σ : lk_M) (t k : Nat) : mm_rel (lk_st (mm_finL σ t k) 9 k (mm_finL σ t k 9 k &&& ((1 <<< (nI t &&& 31)) ^^^ (-1)))) k = mm_finL σ t (k + 1) := by
  have e9 : mm_finL σ t k 9 k = σ 9 k := by unfold mm_finL; simp [lk_up_eq]
  have e0 : mm_finL σ t k 0 k = σ 0 k := by unfold mm_finL; simp [lk_up_eq]
  have eo : ((1 : Int32) <<< (nI t &&& 31)) ^^^ (-1) = lk_off t := rfl
  rw [e9, eo]
  unfold mm_rel
  rw [lk_st_f (by decide), e0, lk_st_s]
  by_cases hc : σ 0 k = 2 ∧ σ 9 k &&& lk_off t = 0
  · rw [if_pos hc]
    funext f i
    unfold mm_finL
    simp only [lk_st_eq, lk_up_eq]
    by_cases h0 : f = 0
    · subst h0
      by_cases hi : i = k
      · subst hi; simp [hc]
      · simp only [hi, and_false, if_false, if_true, true_and]
        by_cases hl : i < k
        · simp [hl, show i < k + 1 by omega]
        · simp [hl, show ¬ i < k + 1 by omega]
    · by_cases h9 : f = 9
      · subst h9
        by_cases hi : i = k
        · subst hi; simp
        · simp only [hi, and_false, if_false, if_true]
          by_cases hl : i < k
          · simp [hl, show i < k + 1 by omega]
          · simp [hl, show ¬ i < k + 1 by omega]
      · simp [h0, h9]
  · rw [if_neg hc]
    funext f i
    unfold mm_finL
    simp only [lk_st_eq, lk_up_eq]
    by_cases h0 : f = 0
    · subst h0
      by_cases hi : i = k
      · subst hi; simp [hc]
      · simp only [if_true]
        by_cases hl : i < k
        · simp [hl, show i < k + 1 by omega]
        · simp [hl, show ¬ i < k + 1 by omega]
    · by_cases h9 : f = 9
      · subst h9
        by_cases hi : i = k
        · subst hi; simp
        · simp only [hi, and_false, if_false, if_true]
          by_cases hl : i < k
          · simp [hl, show i < k + 1 by omega]
          · simp [hl, show ¬ i < k + 1 by omega]
      · simp [h0, h9]
section
variable {pg : Program} {l : Launch} {en : Env} {R : Room} {s : State} {m : MethodId} {args : Array Value} {below : List Frame} {meth : Method} {cd : Code} {H : Heap} {locs : List Loc} {cells slots : Nat} {Q : State → Prop} {D : va_G} {τ : Nat → ClassId} {ad : Nat → Nat} {A : Nat → Prop} {H0 : Heap} {M : lk_M}
theorem w_MO_finish (X : lk_X pg s m args meth cd y_MO_finish b_MO_finish 4 (some (.int)) D τ) (hA : ∀ q, H0.size ≤ q → A q) (hR : 1 ≤ R.frames ∧ 21 ≤ R.locals) {t : Nat} {a : Int32} (ht : t < 4) : ∀ (r k : Nat), k + r = 24 → ∀ (H : Heap) (locs : List Loc) (ls : Array Slot), lk_H D lk_cl A H0 (lk_w 25 ad (lk_me τ ad (mm_finL M t k))) H locs → lv_has ls 4 [(3, .int (nI k)), (0, .ref (ad 0)), (1, .int (nI t)), (2, .int a)] → (∀ (H : Heap) (locs : List Loc) (ls : Array Slot), lk_H D lk_cl A H0 (lk_w 25 ad (lk_me τ ad (mm_finL M t 24))) H locs → W pg l en R s m args below meth cd H locs 0 0 Q (F0 m 54 ls [])) → W pg l en R s m args below meth cd H locs 0 0 Q (F0 m 23 ls []) := by
  obtain ⟨hx, hb, -⟩ := id X
  intro r
  induction r with
  | zero =>
    intro k hk H locs ls h hl kk
    have hk : k = 24 := by omega
    subst hk
    refine lv_iload_n hx hb d_MO_finish_23 rfl (lv_at hl 0 rfl) ?_
    refine lv_bipush (v := nI 24) hx hb d_MO_finish_24 (by decide) ?_
    refine lk_cN_ge (tgt := 54) hx hb (by omega) (by omega) d_MO_finish_26 (by decide) (fun h1 => ?_) (fun h1 => ?_)
    · exact kk H locs ls h
    · omega
  | succ r ih =>
    intro k hk H locs ls h hl kk
    refine lv_iload_n hx hb d_MO_finish_23 rfl (lv_at hl 0 rfl) ?_
    refine lv_bipush (v := nI 24) hx hb d_MO_finish_24 (by decide) ?_
    refine lk_cN_ge (tgt := 54) hx hb (by omega) (by omega) d_MO_finish_26 (by decide) (fun h1 => ?_) (fun h1 => ?_)
    · omega
    · refine lv_aload_n hx hb d_MO_finish_29 rfl (lv_at hl 1 rfl) ?_
      refine mo_get X rfl h 10 (by decide) rfl gf_MO_37 rfl d_MO_finish_30 ?_
      refine lv_iload_n hx hb d_MO_finish_33 rfl (lv_at hl 0 rfl) ?_
      refine lv_dup2_11 hx hb d_MO_finish_34 rfl rfl ?_
      refine mo_ald X h 9 24 rfl (by decide) (j := k) (by omega) (by decide) d_MO_finish_35 ?_
      refine lv_iconst (v := 1) hx hb d_MO_finish_36 (by decide) ?_
      refine lv_iload_n hx hb d_MO_finish_37 rfl (lv_at hl 2 rfl) ?_
      refine lv_ishl hx hb d_MO_finish_38 ?_
      refine lv_iconst (v := (-1)) hx hb d_MO_finish_39 (by decide) ?_
      refine lv_ixor hx hb d_MO_finish_40 ?_
      refine lv_iand hx hb d_MO_finish_41 ?_
      refine mo_ast X h 9 24 rfl (by decide) (j := k) (v := ((mm_finL M t k) 9 k) &&& ((1 <<< ((nI t) &&& 31)) ^^^ (-1))) (by omega) (by decide) d_MO_finish_42 (fun H locs h => ?_)
      refine lv_aload_n hx hb d_MO_finish_43 rfl (lv_at hl 1 rfl) ?_
      refine lv_iload_n hx hb d_MO_finish_44 rfl (lv_at hl 0 rfl) ?_
      refine lk_gov (lk_runV (As := [.int (nI k)]) (C := R_MO) X h (c_MO_release l D τ ad _ k (by omega)) ⟨gc_MO_release, gm_MO_98, gn_MO, gd_MO_release, (hR).1, (hR).2⟩ gi_MO_release gs_MO_release ⟨0, 4, _, _, _, lk_w_get (by decide), rfl⟩ rfl hl.1 (Nat.le_of_ble_eq_true rfl) d_MO_finish_45 ⟨Nat.zero_le _, Nat.zero_le _⟩) h hA (fun σ45 H locs hk9 h => ?_)
      rw [hk9, mm_finL_s] at h
      refine lv_iinc (k := 0) (v := nI (k + 1)) hx hb d_MO_finish_48 hl rfl (nI_1 _) (by decide) rfl (fun ls hl => ?_)
      have hl : lv_has ls 4 [(3, .int (nI (k + 1))), (0, .ref (ad 0)), (1, .int (nI t)), (2, .int a)] := hl
      refine lv_goto (tgt := 23) hx hb d_MO_finish_51 (by decide) ?_
      exact ih (k + 1) (by omega) H locs ls h hl kk
end
set_option maxRecDepth 20000 in
theorem c_MO_finish (l : Launch) (D : va_G) (τ : Nat → ClassId) (ad : Nat → Nat) (M : lk_M) (t : Nat) (ht : t < 4) (a : Int32) : lk_Ci l D τ 25 ad (lk_me τ ad) y_MO_finish b_MO_finish 4 (.int) 1 21 [.ref (ad 0), .int (nI t), .int a] M (fun r M1 => r = 2 ∧ M1 = mm_fin M t a) := by
  refine lk_openi (by decide +kernel) (Nat.le_of_ble_eq_true rfl) ?_
  intro pg en s m args below meth cd ls A X h hA hl
  obtain ⟨hx, hb, -⟩ := id X
  have hl : lv_has ls 4 [(0, .ref (ad 0)), (1, .int (nI t)), (2, .int a)] := hl
  refine lv_aload_n hx hb d_MO_finish_0 rfl (lv_at hl 0 rfl) ?_
  refine mo_get X rfl h 24 (by decide) rfl gf_MO_74 rfl d_MO_finish_1 ?_
  refine lv_iload_n hx hb d_MO_finish_4 rfl (lv_at hl 1 rfl) ?_
  refine lv_iload_n hx hb d_MO_finish_5 rfl (lv_at hl 2 rfl) ?_
  refine mo_ast X h 21 4 rfl (by decide) (j := t) (v := a) (by omega) (by decide) d_MO_finish_6 (fun H locs h => ?_)
  refine lv_aload_n hx hb d_MO_finish_7 rfl (lv_at hl 0 rfl) ?_
  refine mo_get X rfl h 23 (by decide) rfl gf_MO_71 rfl d_MO_finish_8 ?_
  refine lv_iload_n hx hb d_MO_finish_11 rfl (lv_at hl 1 rfl) ?_
  refine lv_iconst (v := 1) hx hb d_MO_finish_12 (by decide) ?_
  refine mo_zast X h 20 (by decide) (j := t) (v := 1) (by decide) (by omega) d_MO_finish_13 (fun H locs h => ?_)
  refine lv_aload_n hx hb d_MO_finish_14 rfl (lv_at hl 0 rfl) ?_
  refine mo_get X rfl h 14 (by decide) rfl gf_MO_43 rfl d_MO_finish_15 ?_
  refine lv_iload_n hx hb d_MO_finish_18 rfl (lv_at hl 1 rfl) ?_
  refine lv_iconst (v := 0) hx hb d_MO_finish_19 (by decide) ?_
  refine mo_zast X h 11 (by decide) (j := t) (v := 0) (by decide) (by omega) d_MO_finish_20 (fun H locs h => ?_)
  refine lv_iconst (v := nI 0) hx hb d_MO_finish_21 (by decide) ?_
  refine lv_istore_n hx hb d_MO_finish_22 rfl hl (by decide) rfl (fun ls hl => ?_)
  have hl : lv_has ls 4 [(3, .int (nI 0)), (0, .ref (ad 0)), (1, .int (nI t)), (2, .int a)] := hl
  refine w_MO_finish X hA (by decide) ht 24 0 (by omega) _ _ ls (by rw [mm_finL_0]; exact h) hl (fun H locs ls h => ?_)
  refine lv_iconst (v := 2) hx hb d_MO_finish_54 (by decide) ?_
  exact lk_reti X h d_MO_finish_55 (⟨rfl, rfl⟩)
def lk_hb (f : Nat → Int32) (x : Int32) (i : Nat) (b : Int32) : Prop := (b = 0 ∧ ¬ lk_has f x i) ∨ (b = 1 ∧ lk_has f x i)
theorem lk_has_s {f : Nat → Int32} {x : Int32} {i : Nat} : lk_has f x (i + 1) ↔ (lk_has f x i ∨ f i = x) := by
  constructor
  · intro ⟨j, h1, h2⟩
    by_cases e : j = i
    · right; rw [← e]; exact h2
    · left; exact ⟨j, by omega, h2⟩
  · intro z
    rcases z with ⟨j, h1, h2⟩ | z
    · exact ⟨j, by omega, h2⟩
    · exact ⟨i, by omega, z⟩
section
variable {pg : Program} {l : Launch} {en : Env} {R : Room} {s : State} {m : MethodId} {args : Array Value} {below : List Frame} {meth : Method} {cd : Code} {H : Heap} {locs : List Loc} {cells slots : Nat} {Q : State → Prop} {D : va_G} {τ : Nat → ClassId} {ad : Nat → Nat} {A : Nat → Prop} {H0 : Heap} {M : lk_M}
theorem w_MO_comeIntoQueue (X : lk_X pg s m args meth cd y_MO_comeIntoQueue b_MO_comeIntoQueue 4 (none) D τ) (h : lk_H D lk_cl A H0 (lk_w 25 ad (lk_me τ ad M)) H locs) {n : Nat} {x : Int32} (hc : M 24 1 = nI n) (hn : n ≤ 12) : ∀ (r i : Nat), i + r = n → ∀ (b : Int32), lk_hb (M 10) x i b → ∀ ls : Array Slot, lv_has ls 4 [(3, .int (nI i)), (2, .int b), (0, .ref (ad 0)), (1, .int x)] → (∀ (b : Int32) (ls : Array Slot), lk_hb (M 10) x n b → lv_has ls 4 [(3, .int (nI n)), (2, .int b), (0, .ref (ad 0)), (1, .int x)] → W pg l en R s m args below meth cd H locs cells slots Q (F0 m 38 ls [])) → W pg l en R s m args below meth cd H locs cells slots Q (F0 m 4 ls []) := by
  obtain ⟨hx, hb, -⟩ := id X
  intro r
  induction r with
  | zero =>
    intro i hi b hB ls hl kk
    have hi : i = n := by omega
    subst hi
    refine lv_iload_n hx hb d_MO_comeIntoQueue_4 rfl (lv_at hl 0 rfl) ?_
    refine lv_aload_n hx hb d_MO_comeIntoQueue_5 rfl (lv_at hl 2 rfl) ?_
    refine mo_get X rfl h 12 (by decide) rfl gf_MO_91 rfl d_MO_comeIntoQueue_6 ?_
    refine lk_top (nI i) (hc) ?_
    refine lk_cN_ge (tgt := 38) hx hb (by omega) (by omega) d_MO_comeIntoQueue_9 (by decide) (fun h1 => ?_) (fun h1 => ?_)
    · exact kk b ls hB hl
    · omega
  | succ r ih =>
    intro i hi b hB ls hl kk
    refine lv_iload_n hx hb d_MO_comeIntoQueue_4 rfl (lv_at hl 0 rfl) ?_
    refine lv_aload_n hx hb d_MO_comeIntoQueue_5 rfl (lv_at hl 2 rfl) ?_
    refine mo_get X rfl h 12 (by decide) rfl gf_MO_91 rfl d_MO_comeIntoQueue_6 ?_
    refine lk_top (nI n) (hc) ?_
    refine lk_cN_ge (tgt := 38) hx hb (by omega) (by omega) d_MO_comeIntoQueue_9 (by decide) (fun h1 => ?_) (fun h1 => ?_)
    · omega
    · refine lv_iload_n hx hb d_MO_comeIntoQueue_12 rfl (lv_at hl 1 rfl) ?_
      refine lv_if_ne (tgt := 26) hx hb d_MO_comeIntoQueue_13 (by decide) (fun h2 => ?_) (fun h2 => ?_)
      · refine lv_iconst (v := 1) hx hb d_MO_comeIntoQueue_26 (by decide) ?_
        refine lv_goto (tgt := 31) hx hb d_MO_comeIntoQueue_27 (by decide) ?_
        refine lv_istore_n hx hb d_MO_comeIntoQueue_31 rfl hl (by decide) rfl (fun ls hl => ?_)
        have hl : lv_has ls 4 [(2, .int 1), (3, .int (nI i)), (0, .ref (ad 0)), (1, .int x)] := hl
        refine lv_iinc (k := 1) (v := nI (i + 1)) hx hb d_MO_comeIntoQueue_32 hl rfl (nI_1 _) (by decide) rfl (fun ls hl => ?_)
        have hl : lv_has ls 4 [(3, .int (nI (i + 1))), (2, .int 1), (0, .ref (ad 0)), (1, .int x)] := hl
        refine lv_goto (tgt := 4) hx hb d_MO_comeIntoQueue_35 (by decide) ?_
        refine ih (i + 1) (by omega) 1 (Or.inr ⟨rfl, lk_has_s.mpr (Or.inl ?_)⟩) ls hl kk
        exact hB.elim (fun z => absurd z.1 h2) (fun z => z.2)
      · refine lv_aload_n hx hb d_MO_comeIntoQueue_16 rfl (lv_at hl 2 rfl) ?_
        refine mo_get X rfl h 13 (by decide) rfl gf_MO_40 rfl d_MO_comeIntoQueue_17 ?_
        refine lv_iload_n hx hb d_MO_comeIntoQueue_20 rfl (lv_at hl 0 rfl) ?_
        refine mo_ald X h 10 12 rfl (by decide) (j := i) (by omega) (by decide) d_MO_comeIntoQueue_21 ?_
        refine lv_iload_n hx hb d_MO_comeIntoQueue_22 rfl (lv_at hl 3 rfl) ?_
        refine lv_icmp_ne (tgt := 30) hx hb d_MO_comeIntoQueue_23 (by decide) (fun h3 => ?_) (fun h3 => ?_)
        · refine lv_iconst (v := nI 0) hx hb d_MO_comeIntoQueue_30 (by decide) ?_
          refine lv_istore_n hx hb d_MO_comeIntoQueue_31 rfl hl (by decide) rfl (fun ls hl => ?_)
          have hl : lv_has ls 4 [(2, .int (nI 0)), (3, .int (nI i)), (0, .ref (ad 0)), (1, .int x)] := hl
          refine lv_iinc (k := 1) (v := nI (i + 1)) hx hb d_MO_comeIntoQueue_32 hl rfl (nI_1 _) (by decide) rfl (fun ls hl => ?_)
          have hl : lv_has ls 4 [(3, .int (nI (i + 1))), (2, .int (nI 0)), (0, .ref (ad 0)), (1, .int x)] := hl
          refine lv_goto (tgt := 4) hx hb d_MO_comeIntoQueue_35 (by decide) ?_
          refine ih (i + 1) (by omega) 0 (Or.inl ⟨rfl, fun z => (lk_has_s.mp z).elim ?_ h3⟩) ls hl kk
          exact hB.elim (fun z => z.2) (fun z => absurd (z.1.symm.trans h2) (by decide))
        · refine lv_iconst (v := 1) hx hb d_MO_comeIntoQueue_26 (by decide) ?_
          refine lv_goto (tgt := 31) hx hb d_MO_comeIntoQueue_27 (by decide) ?_
          refine lv_istore_n hx hb d_MO_comeIntoQueue_31 rfl hl (by decide) rfl (fun ls hl => ?_)
          have hl : lv_has ls 4 [(2, .int 1), (3, .int (nI i)), (0, .ref (ad 0)), (1, .int x)] := hl
          refine lv_iinc (k := 1) (v := nI (i + 1)) hx hb d_MO_comeIntoQueue_32 hl rfl (nI_1 _) (by decide) rfl (fun ls hl => ?_)
          have hl : lv_has ls 4 [(3, .int (nI (i + 1))), (2, .int 1), (0, .ref (ad 0)), (1, .int x)] := hl
          refine lv_goto (tgt := 4) hx hb d_MO_comeIntoQueue_35 (by decide) ?_
          exact ih (i + 1) (by omega) 1 (Or.inr ⟨rfl, lk_has_s.mpr (Or.inr h3)⟩) ls hl kk
end
set_option maxRecDepth 20000 in
theorem c_MO_comeIntoQueue (l : Launch) (D : va_G) (τ : Nat → ClassId) (ad : Nat → Nat) (M : lk_M) (n : Nat) (hc : M 24 1 = nI n) (hn : n ≤ 12) (x : Int32) : lk_Cv l D τ 25 ad (lk_me τ ad) y_MO_comeIntoQueue b_MO_comeIntoQueue 4 0 0 [.ref (ad 0), .int x] M (fun M1 => M1 = lk_cq M x n) := by
  refine lk_openv (by decide +kernel) (Nat.le_of_ble_eq_true rfl) ?_
  intro pg en s m args below meth cd ls A X h hA hl
  obtain ⟨hx, hb, -⟩ := id X
  have hl : lv_has ls 4 [(0, .ref (ad 0)), (1, .int x)] := hl
  refine lv_iconst (v := 0) hx hb d_MO_comeIntoQueue_0 (by decide) ?_
  refine lv_istore_n hx hb d_MO_comeIntoQueue_1 rfl hl (by decide) rfl (fun ls hl => ?_)
  have hl : lv_has ls 4 [(2, .int 0), (0, .ref (ad 0)), (1, .int x)] := hl
  refine lv_iconst (v := nI 0) hx hb d_MO_comeIntoQueue_2 (by decide) ?_
  refine lv_istore_n hx hb d_MO_comeIntoQueue_3 rfl hl (by decide) rfl (fun ls hl => ?_)
  have hl : lv_has ls 4 [(3, .int (nI 0)), (2, .int 0), (0, .ref (ad 0)), (1, .int x)] := hl
  refine w_MO_comeIntoQueue X h hc hn n 0 (by omega) 0 (Or.inl ⟨rfl, fun ⟨j, hj, _⟩ => by omega⟩) ls hl (fun b ls hB hl => ?_)
  refine lv_iload_n hx hb d_MO_comeIntoQueue_38 rfl (lv_at hl 1 rfl) ?_
  refine lv_if_ne (tgt := 51) hx hb d_MO_comeIntoQueue_39 (by decide) (fun h1 => ?_) (fun h1 => ?_)
  · exact lk_retv X h d_MO_comeIntoQueue_51 ((if_pos (Or.inl (hB.elim (fun z => absurd z.1 h1) (fun z => z.2)))).symm)
  · refine lv_aload_n hx hb d_MO_comeIntoQueue_42 rfl (lv_at hl 2 rfl) ?_
    refine mo_get X rfl h 12 (by decide) rfl gf_MO_91 rfl d_MO_comeIntoQueue_43 ?_
    refine lk_top (nI n) (hc) ?_
    refine lv_bipush (v := nI 12) hx hb d_MO_comeIntoQueue_46 (by decide) ?_
    refine lk_cN_ne (tgt := 52) hx hb (by omega) (by omega) d_MO_comeIntoQueue_48 (by decide) (fun h2 => ?_) (fun h2 => ?_)
    · refine lv_aload_n hx hb d_MO_comeIntoQueue_52 rfl (lv_at hl 2 rfl) ?_
      refine mo_get X rfl h 13 (by decide) rfl gf_MO_40 rfl d_MO_comeIntoQueue_53 ?_
      refine lv_aload_n hx hb d_MO_comeIntoQueue_56 rfl (lv_at hl 2 rfl) ?_
      refine mo_get X rfl h 12 (by decide) rfl gf_MO_91 rfl d_MO_comeIntoQueue_57 ?_
      refine lk_top (nI n) (hc) ?_
      refine lv_iload_n hx hb d_MO_comeIntoQueue_60 rfl (lv_at hl 3 rfl) ?_
      refine mo_ast X h 10 12 rfl (by decide) (j := n) (v := x) (by omega) (by decide) d_MO_comeIntoQueue_61 (fun H locs h => ?_)
      refine lv_aload_n hx hb d_MO_comeIntoQueue_62 rfl (lv_at hl 2 rfl) ?_
      refine lv_dup hx hb d_MO_comeIntoQueue_63 rfl ?_
      refine mo_get X rfl h 12 (by decide) rfl gf_MO_91 rfl d_MO_comeIntoQueue_64 ?_
      refine lk_top (nI n) ((lk_st_f (by decide)).trans (hc)) ?_
      refine lv_iconst (v := nI 1) hx hb d_MO_comeIntoQueue_67 (by decide) ?_
      refine lk_iaddN hx hb d_MO_comeIntoQueue_68 ?_
      refine mo_put X rfl h 12 1 (by decide) gf_MO_91 d_MO_comeIntoQueue_69 (fun H locs h => ?_)
      exact lk_retv X h d_MO_comeIntoQueue_72 ((if_neg (fun z => z.elim (fun q => hB.elim (fun y => y.2 q) (fun y => absurd (y.1.symm.trans h1) (by decide))) h2)).symm)
    · exact lk_retv X h d_MO_comeIntoQueue_51 ((if_pos (Or.inr h2)).symm)
def lk_lqL (M : lk_M) (x : Int32) (i : Nat) : lk_M := va_up M 10 (lk_cmp (M 10) x i).1
theorem lk_lqL_0 (M : lk_M) (x : Int32) : lk_lqL M x 0 = M := lk_up_id M 10
theorem lk_lqL_10 (M : lk_M) (x : Int32) (i j : Nat) : lk_lqL M x i 10 j = (lk_cmp (M 10) x i).1 j := by
  unfold lk_lqL; simp [lk_up_eq]
theorem lk_cmp_s (f : Nat → Int32) (x : Int32) (i : Nat) : lk_cmp f x (i + 1) = if (lk_cmp f x i).1 i = x then lk_cmp f x i else (upd (lk_cmp f x i).1 (lk_cmp f x i).2 ((lk_cmp f x i).1 i), (lk_cmp f x i).2 + 1) := rfl
theorem lk_lqL_s (M : lk_M) {x : Int32} {i : Nat} (h : ¬ lk_lqL M x i 10 i = x) : lk_st (lk_lqL M x i) 10 (lk_cmp (M 10) x i).2 (lk_lqL M x i 10 i) = lk_lqL M x (i + 1) ∧ (lk_cmp (M 10) x i).2 + 1 = (lk_cmp (M 10) x (i + 1)).2 := by
  rw [lk_lqL_10] at h ⊢
  have e := lk_cmp_s (M 10) x i
  rw [if_neg h] at e
  refine ⟨?_, by rw [e]⟩
  have e1 : lk_lqL M x (i + 1) = va_up M 10 (upd (lk_cmp (M 10) x i).1 (lk_cmp (M 10) x i).2 ((lk_cmp (M 10) x i).1 i)) := by
    unfold lk_lqL; rw [e]
  rw [e1]
  funext f j
  unfold lk_lqL
  simp only [lk_st_eq, lk_up_eq, upd]
  by_cases hf : f = 10
  · subst hf; simp
  · simp [hf]
theorem lk_lqL_c (M : lk_M) {x : Int32} {i : Nat} (h : lk_lqL M x i 10 i = x) : lk_lqL M x i = lk_lqL M x (i + 1) ∧ (lk_cmp (M 10) x i).2 = (lk_cmp (M 10) x (i + 1)).2 := by
  rw [lk_lqL_10] at h
  have e := lk_cmp_s (M 10) x i
  rw [if_pos h] at e
  unfold lk_lqL
  rw [e]
  exact ⟨rfl, rfl⟩
theorem lk_lqL_24 (M : lk_M) (x : Int32) (i j : Nat) : lk_lqL M x i 24 j = M 24 j := by
  unfold lk_lqL; simp [lk_up_eq]
theorem lk_lqL_e (M : lk_M) (x : Int32) (n : Nat) : lk_st (lk_lqL M x n) 24 1 (nI (lk_cmp (M 10) x n).2) = lk_lq M x n := by
  funext f j
  unfold lk_lqL lk_lq
  simp only [lk_st_eq, lk_up_eq, upd]
  by_cases hf : f = 24
  · subst hf; simp
  · simp [hf]
section
variable {pg : Program} {l : Launch} {en : Env} {R : Room} {s : State} {m : MethodId} {args : Array Value} {below : List Frame} {meth : Method} {cd : Code} {H : Heap} {locs : List Loc} {cells slots : Nat} {Q : State → Prop} {D : va_G} {τ : Nat → ClassId} {ad : Nat → Nat} {A : Nat → Prop} {H0 : Heap} {M : lk_M}
theorem w_MO_leaveQueue (X : lk_X pg s m args meth cd y_MO_leaveQueue b_MO_leaveQueue 4 (none) D τ) {n : Nat} {x : Int32} (hc : M 24 1 = nI n) (hn : n ≤ 12) : ∀ (r i : Nat), i + r = n → ∀ (H : Heap) (locs : List Loc) (ls : Array Slot), lk_H D lk_cl A H0 (lk_w 25 ad (lk_me τ ad (lk_lqL M x i))) H locs → lv_has ls 4 [(3, .int (nI i)), (2, .int (nI ((lk_cmp (M 10) x i).2))), (0, .ref (ad 0)), (1, .int x)] → (∀ (H : Heap) (locs : List Loc) (ls : Array Slot), lk_H D lk_cl A H0 (lk_w 25 ad (lk_me τ ad (lk_lqL M x n))) H locs → lv_has ls 4 [(3, .int (nI n)), (2, .int (nI ((lk_cmp (M 10) x n).2))), (0, .ref (ad 0)), (1, .int x)] → W pg l en R s m args below meth cd H locs cells slots Q (F0 m 46 ls [])) → W pg l en R s m args below meth cd H locs cells slots Q (F0 m 4 ls []) := by
  obtain ⟨hx, hb, -⟩ := id X
  intro r
  induction r with
  | zero =>
    intro i hi H locs ls h hl kk
    have hi : i = n := by omega
    subst hi
    have hc1 := (lk_lqL_24 M x i 1).trans hc
    refine lv_iload_n hx hb d_MO_leaveQueue_4 rfl (lv_at hl 0 rfl) ?_
    refine lv_aload_n hx hb d_MO_leaveQueue_5 rfl (lv_at hl 2 rfl) ?_
    refine mo_get X rfl h 12 (by decide) rfl gf_MO_91 rfl d_MO_leaveQueue_6 ?_
    refine lk_top (nI i) (hc1) ?_
    refine lk_cN_ge (tgt := 46) hx hb (by omega) (by omega) d_MO_leaveQueue_9 (by decide) (fun h1 => ?_) (fun h1 => ?_)
    · exact kk H locs ls h hl
    · omega
  | succ r ih =>
    intro i hi H locs ls h hl kk
    have hle := lk_cmp_le (M 10) x i
    have hc1 := (lk_lqL_24 M x i 1).trans hc
    refine lv_iload_n hx hb d_MO_leaveQueue_4 rfl (lv_at hl 0 rfl) ?_
    refine lv_aload_n hx hb d_MO_leaveQueue_5 rfl (lv_at hl 2 rfl) ?_
    refine mo_get X rfl h 12 (by decide) rfl gf_MO_91 rfl d_MO_leaveQueue_6 ?_
    refine lk_top (nI n) (hc1) ?_
    refine lk_cN_ge (tgt := 46) hx hb (by omega) (by omega) d_MO_leaveQueue_9 (by decide) (fun h1 => ?_) (fun h1 => ?_)
    · omega
    · refine lv_aload_n hx hb d_MO_leaveQueue_12 rfl (lv_at hl 2 rfl) ?_
      refine mo_get X rfl h 13 (by decide) rfl gf_MO_40 rfl d_MO_leaveQueue_13 ?_
      refine lv_iload_n hx hb d_MO_leaveQueue_16 rfl (lv_at hl 0 rfl) ?_
      refine mo_ald X h 10 12 rfl (by decide) (j := i) (by omega) (by decide) d_MO_leaveQueue_17 ?_
      refine lv_iload_n hx hb d_MO_leaveQueue_18 rfl (lv_at hl 3 rfl) ?_
      refine lv_icmp_ne (tgt := 25) hx hb d_MO_leaveQueue_19 (by decide) (fun h2 => ?_) (fun h2 => ?_)
      · obtain ⟨e1, e2⟩ := lk_lqL_s M h2
        refine lv_aload_n hx hb d_MO_leaveQueue_25 rfl (lv_at hl 2 rfl) ?_
        refine mo_get X rfl h 13 (by decide) rfl gf_MO_40 rfl d_MO_leaveQueue_26 ?_
        refine lv_iload_n hx hb d_MO_leaveQueue_29 rfl (lv_at hl 1 rfl) ?_
        refine lv_aload_n hx hb d_MO_leaveQueue_30 rfl (lv_at hl 2 rfl) ?_
        refine mo_get X rfl h 13 (by decide) rfl gf_MO_40 rfl d_MO_leaveQueue_31 ?_
        refine lv_iload_n hx hb d_MO_leaveQueue_34 rfl (lv_at hl 0 rfl) ?_
        refine mo_ald X h 10 12 rfl (by decide) (j := i) (by omega) (by decide) d_MO_leaveQueue_35 ?_
        refine mo_ast X h 10 12 rfl (by decide) (j := (lk_cmp (M 10) x i).2) (v := (lk_lqL M x i) 10 i) (by omega) (by decide) d_MO_leaveQueue_36 (fun H locs h => ?_)
        refine lv_iinc (k := 1) (v := nI ((lk_cmp (M 10) x i).2 + 1)) hx hb d_MO_leaveQueue_37 hl rfl (nI_1 _) (by decide) rfl (fun ls hl => ?_)
        have hl : lv_has ls 4 [(2, .int (nI ((lk_cmp (M 10) x i).2 + 1))), (3, .int (nI i)), (0, .ref (ad 0)), (1, .int x)] := hl
        refine lv_iinc (k := 1) (v := nI (i + 1)) hx hb d_MO_leaveQueue_40 hl rfl (nI_1 _) (by decide) rfl (fun ls hl => ?_)
        have hl : lv_has ls 4 [(3, .int (nI (i + 1))), (2, .int (nI ((lk_cmp (M 10) x i).2 + 1))), (0, .ref (ad 0)), (1, .int x)] := hl
        refine lv_goto (tgt := 4) hx hb d_MO_leaveQueue_43 (by decide) ?_
        rw [e1] at h
        rw [e2] at hl
        exact ih (i + 1) (by omega) H locs ls h hl kk
      · obtain ⟨e1, e2⟩ := lk_lqL_c M h2
        refine lv_goto (tgt := 40) hx hb d_MO_leaveQueue_22 (by decide) ?_
        refine lv_iinc (k := 0) (v := nI (i + 1)) hx hb d_MO_leaveQueue_40 hl rfl (nI_1 _) (by decide) rfl (fun ls hl => ?_)
        have hl : lv_has ls 4 [(3, .int (nI (i + 1))), (2, .int (nI ((lk_cmp (M 10) x i).2))), (0, .ref (ad 0)), (1, .int x)] := hl
        refine lv_goto (tgt := 4) hx hb d_MO_leaveQueue_43 (by decide) ?_
        rw [e1] at h
        rw [e2] at hl
        exact ih (i + 1) (by omega) H locs ls h hl kk
end
set_option maxRecDepth 20000 in
theorem c_MO_leaveQueue (l : Launch) (D : va_G) (τ : Nat → ClassId) (ad : Nat → Nat) (M : lk_M) (n : Nat) (hc : M 24 1 = nI n) (hn : n ≤ 12) (x : Int32) : lk_Cv l D τ 25 ad (lk_me τ ad) y_MO_leaveQueue b_MO_leaveQueue 4 0 0 [.ref (ad 0), .int x] M (fun M1 => M1 = lk_lq M x n) := by
  refine lk_openv (by decide +kernel) (Nat.le_of_ble_eq_true rfl) ?_
  intro pg en s m args below meth cd ls A X h hA hl
  obtain ⟨hx, hb, -⟩ := id X
  have hl : lv_has ls 4 [(0, .ref (ad 0)), (1, .int x)] := hl
  refine lv_iconst (v := nI 0) hx hb d_MO_leaveQueue_0 (by decide) ?_
  refine lv_istore_n hx hb d_MO_leaveQueue_1 rfl hl (by decide) rfl (fun ls hl => ?_)
  have hl : lv_has ls 4 [(2, .int (nI 0)), (0, .ref (ad 0)), (1, .int x)] := hl
  refine lv_iconst (v := nI 0) hx hb d_MO_leaveQueue_2 (by decide) ?_
  refine lv_istore_n hx hb d_MO_leaveQueue_3 rfl hl (by decide) rfl (fun ls hl => ?_)
  have hl : lv_has ls 4 [(3, .int (nI 0)), (2, .int (nI 0)), (0, .ref (ad 0)), (1, .int x)] := hl
  refine w_MO_leaveQueue X hc hn n 0 (by omega) _ _ ls (by rw [lk_lqL_0]; exact h) hl (fun H locs ls h hl => ?_)
  refine lv_aload_n hx hb d_MO_leaveQueue_46 rfl (lv_at hl 2 rfl) ?_
  refine lv_iload_n hx hb d_MO_leaveQueue_47 rfl (lv_at hl 1 rfl) ?_
  refine mo_put X rfl h 12 1 (by decide) gf_MO_91 d_MO_leaveQueue_48 (fun H locs h => ?_)
  exact lk_retv X h d_MO_leaveQueue_51 (lk_lqL_e M x n)
theorem lk_mask_s (b : Nat → Prop) (t0 t : Nat) : lk_mask b t0 (t + 1) = @ite _ (b t ∧ t ≠ t0) (Classical.propDecidable _) (lk_mask b t0 t ||| lk_bit t) (lk_mask b t0 t) := rfl
noncomputable def mm_die (σ : lk_M) (p t n : Nat) : lk_M :=
  mm_rel (lk_st (lk_lq (lk_st σ 0 p 2) (nI p) n) 9 p (lk_mask (fun u => σ 11 u ≠ 0) t 4)) p
theorem lk_lq_11 (σ : lk_M) (x : Int32) (n j : Nat) : lk_lq σ x n 11 j = σ 11 j := by
  unfold lk_lq; simp [lk_up_eq]
section
variable {pg : Program} {l : Launch} {en : Env} {R : Room} {s : State} {m : MethodId} {args : Array Value} {below : List Frame} {meth : Method} {cd : Code} {H : Heap} {locs : List Loc} {cells slots : Nat} {Q : State → Prop} {D : va_G} {τ : Nat → ClassId} {ad : Nat → Nat} {A : Nat → Prop} {H0 : Heap} {M : lk_M}
theorem w_MO_die (X : lk_X pg s m args meth cd y_MO_die b_MO_die 4 (none) D τ) {p t n : Nat} (hp : p < 24) (ht : t < 4) : ∀ (r k : Nat), k + r = 4 → ∀ (H : Heap) (locs : List Loc) (ls : Array Slot), lk_H D lk_cl A H0 (lk_w 25 ad (lk_me τ ad (lk_st (lk_lq (lk_st M 0 p 2) (nI p) n) 9 p (lk_mask (fun u => M 11 u ≠ 0) t k)))) H locs → lv_has ls 4 [(3, .int (nI k)), (0, .ref (ad 0)), (1, .int (nI p)), (2, .int (nI t))] → (∀ (H : Heap) (locs : List Loc) (ls : Array Slot), lk_H D lk_cl A H0 (lk_w 25 ad (lk_me τ ad (lk_st (lk_lq (lk_st M 0 p 2) (nI p) n) 9 p (lk_mask (fun u => M 11 u ≠ 0) t 4)))) H locs → lv_has ls 4 [(3, .int (nI 4)), (0, .ref (ad 0)), (1, .int (nI p)), (2, .int (nI t))] → W pg l en R s m args below meth cd H locs cells slots Q (F0 m 58 ls [])) → W pg l en R s m args below meth cd H locs cells slots Q (F0 m 21 ls []) := by
  obtain ⟨hx, hb, -⟩ := id X
  intro r
  induction r with
  | zero =>
    intro k hk H locs ls h hl kk
    have hk : k = 4 := by omega
    subst hk
    refine lv_iload_n hx hb d_MO_die_21 rfl (lv_at hl 0 rfl) ?_
    refine lv_iconst (v := nI 4) hx hb d_MO_die_22 (by decide) ?_
    refine lk_cN_ge (tgt := 58) hx hb (by omega) (by omega) d_MO_die_23 (by decide) (fun h1 => ?_) (fun h1 => ?_)
    · exact kk H locs ls h hl
    · omega
  | succ r ih =>
    intro k hk H locs ls h hl kk
    have hb11 : (lk_lq (lk_st M 0 p 2) (nI p) n) 11 k = M 11 k := (lk_lq_11 _ _ _ _).trans (lk_st_f (by decide))
    have hms := lk_mask_s (fun u => M 11 u ≠ 0) t k
    refine lv_iload_n hx hb d_MO_die_21 rfl (lv_at hl 0 rfl) ?_
    refine lv_iconst (v := nI 4) hx hb d_MO_die_22 (by decide) ?_
    refine lk_cN_ge (tgt := 58) hx hb (by omega) (by omega) d_MO_die_23 (by decide) (fun h1 => ?_) (fun h1 => ?_)
    · omega
    · refine lv_aload_n hx hb d_MO_die_26 rfl (lv_at hl 1 rfl) ?_
      refine mo_get X rfl h 14 (by decide) rfl gf_MO_43 rfl d_MO_die_27 ?_
      refine lv_iload_n hx hb d_MO_die_30 rfl (lv_at hl 0 rfl) ?_
      refine mo_zald X h 11 (by decide) (j := k) (by omega) d_MO_die_31 ?_
      refine lk_top (M 11 k) ((lk_st_f (by decide)).trans (hb11)) ?_
      refine lv_if_eq (tgt := 52) hx hb d_MO_die_32 (by decide) (fun h2 => ?_) (fun h2 => ?_)
      · refine lv_iinc (k := 0) (v := nI (k + 1)) hx hb d_MO_die_52 hl rfl (nI_1 _) (by decide) rfl (fun ls hl => ?_)
        have hl : lv_has ls 4 [(3, .int (nI (k + 1))), (0, .ref (ad 0)), (1, .int (nI p)), (2, .int (nI t))] := hl
        refine lv_goto (tgt := 21) hx hb d_MO_die_55 (by decide) ?_
        rw [if_neg (fun z => z.1 h2)] at hms
        rw [← hms] at h
        exact ih (k + 1) (by omega) H locs ls h hl kk
      · refine lv_iload_n hx hb d_MO_die_35 rfl (lv_at hl 0 rfl) ?_
        refine lv_iload_n hx hb d_MO_die_36 rfl (lv_at hl 3 rfl) ?_
        refine lk_cN_eq (tgt := 52) hx hb (by omega) (by omega) d_MO_die_37 (by decide) (fun h3 => ?_) (fun h3 => ?_)
        · refine lv_iinc (k := 0) (v := nI (k + 1)) hx hb d_MO_die_52 hl rfl (nI_1 _) (by decide) rfl (fun ls hl => ?_)
          have hl : lv_has ls 4 [(3, .int (nI (k + 1))), (0, .ref (ad 0)), (1, .int (nI p)), (2, .int (nI t))] := hl
          refine lv_goto (tgt := 21) hx hb d_MO_die_55 (by decide) ?_
          rw [if_neg (fun z => z.2 h3)] at hms
          rw [← hms] at h
          exact ih (k + 1) (by omega) H locs ls h hl kk
        · refine lv_aload_n hx hb d_MO_die_40 rfl (lv_at hl 1 rfl) ?_
          refine mo_get X rfl h 10 (by decide) rfl gf_MO_37 rfl d_MO_die_41 ?_
          refine lv_iload_n hx hb d_MO_die_44 rfl (lv_at hl 2 rfl) ?_
          refine lv_dup2_11 hx hb d_MO_die_45 rfl rfl ?_
          refine mo_ald X h 9 24 rfl (by decide) (j := p) (by omega) (by decide) d_MO_die_46 ?_
          refine lk_top (lk_mask (fun u => M 11 u ≠ 0) t k) (lk_st_s) ?_
          refine lv_iconst (v := 1) hx hb d_MO_die_47 (by decide) ?_
          refine lv_iload_n hx hb d_MO_die_48 rfl (lv_at hl 0 rfl) ?_
          refine lv_ishl hx hb d_MO_die_49 ?_
          refine lv_ior hx hb d_MO_die_50 ?_
          refine mo_ast X h 9 24 rfl (by decide) (j := p) (v := (lk_mask (fun u => M 11 u ≠ 0) t k) ||| (1 <<< ((nI k) &&& 31))) (by omega) (by decide) d_MO_die_51 (fun H locs h => ?_)
          refine lv_iinc (k := 0) (v := nI (k + 1)) hx hb d_MO_die_52 hl rfl (nI_1 _) (by decide) rfl (fun ls hl => ?_)
          have hl : lv_has ls 4 [(3, .int (nI (k + 1))), (0, .ref (ad 0)), (1, .int (nI p)), (2, .int (nI t))] := hl
          refine lv_goto (tgt := 21) hx hb d_MO_die_55 (by decide) ?_
          rw [if_pos ⟨h2, h3⟩] at hms
          rw [lk_st_st, show lk_mask (fun u => M 11 u ≠ 0) t k ||| (1 <<< (nI k &&& 31)) = lk_mask (fun u => M 11 u ≠ 0) t (k + 1) from hms.symm] at h
          exact ih (k + 1) (by omega) H locs ls h hl kk
end
set_option maxRecDepth 20000 in
theorem c_MO_die (l : Launch) (D : va_G) (τ : Nat → ClassId) (ad : Nat → Nat) (M : lk_M) (p t n : Nat) (hp : p < 24) (ht : t < 4) (hc : M 24 1 = nI n) (hn : n ≤ 12) : lk_Cv l D τ 25 ad (lk_me τ ad) y_MO_die b_MO_die 4 1 23 [.ref (ad 0), .int (nI p), .int (nI t)] M (fun M1 => M1 = mm_die M p t n) := by
  refine lk_openv (by decide +kernel) (Nat.le_of_ble_eq_true rfl) ?_
  intro pg en s m args below meth cd ls A X h hA hl
  obtain ⟨hx, hb, -⟩ := id X
  have hl : lv_has ls 4 [(0, .ref (ad 0)), (1, .int (nI p)), (2, .int (nI t))] := hl
  refine lv_aload_n hx hb d_MO_die_0 rfl (lv_at hl 0 rfl) ?_
  refine mo_get X rfl h 1 (by decide) rfl gf_MO_7 rfl d_MO_die_1 ?_
  refine lv_iload_n hx hb d_MO_die_4 rfl (lv_at hl 1 rfl) ?_
  refine lv_iconst (v := 2) hx hb d_MO_die_5 (by decide) ?_
  refine mo_ast X h 0 24 rfl (by decide) (j := p) (v := 2) (by omega) (by decide) d_MO_die_6 (fun H locs h => ?_)
  refine lv_aload_n hx hb d_MO_die_7 rfl (lv_at hl 0 rfl) ?_
  refine lv_iload_n hx hb d_MO_die_8 rfl (lv_at hl 1 rfl) ?_
  refine lk_gov (lk_runV (As := [.int (nI p)]) (C := R_MO) X h (c_MO_leaveQueue l D τ ad (lk_st M 0 p 2) n ((lk_st_f (by decide)).trans hc) hn (nI p)) ⟨gc_MO_leaveQueue, gm_MO_94, gn_MO, gd_MO_leaveQueue, by decide, by decide⟩ gi_MO_leaveQueue gs_MO_leaveQueue ⟨0, 4, _, _, _, lk_w_get (by decide), rfl⟩ rfl hl.1 (Nat.le_of_ble_eq_true rfl) d_MO_die_9 ⟨Nat.zero_le _, Nat.zero_le _⟩) h hA (fun σ9 H locs hk9 h => ?_)
  rw [hk9] at h
  refine lv_aload_n hx hb d_MO_die_12 rfl (lv_at hl 0 rfl) ?_
  refine mo_get X rfl h 10 (by decide) rfl gf_MO_37 rfl d_MO_die_13 ?_
  refine lv_iload_n hx hb d_MO_die_16 rfl (lv_at hl 1 rfl) ?_
  refine lv_iconst (v := 0) hx hb d_MO_die_17 (by decide) ?_
  refine mo_ast X h 9 24 rfl (by decide) (j := p) (v := 0) (by omega) (by decide) d_MO_die_18 (fun H locs h => ?_)
  refine lv_iconst (v := nI 0) hx hb d_MO_die_19 (by decide) ?_
  refine lv_istore_n hx hb d_MO_die_20 rfl hl (by decide) rfl (fun ls hl => ?_)
  have hl : lv_has ls 4 [(3, .int (nI 0)), (0, .ref (ad 0)), (1, .int (nI p)), (2, .int (nI t))] := hl
  refine w_MO_die X hp ht 4 0 (by omega) _ _ ls h hl (fun H locs ls h hl => ?_)
  refine lv_aload_n hx hb d_MO_die_58 rfl (lv_at hl 1 rfl) ?_
  refine lv_iload_n hx hb d_MO_die_59 rfl (lv_at hl 2 rfl) ?_
  refine lk_gov (lk_runV (As := [.int (nI p)]) (C := R_MO) X h (c_MO_release l D τ ad _ p hp) ⟨gc_MO_release, gm_MO_98, gn_MO, gd_MO_release, by decide, by decide⟩ gi_MO_release gs_MO_release ⟨0, 4, _, _, _, lk_w_get (by decide), rfl⟩ rfl hl.1 (Nat.le_of_ble_eq_true rfl) d_MO_die_60 ⟨Nat.zero_le _, Nat.zero_le _⟩) h hA (fun σ60 H locs hk9 h => ?_)
  rw [hk9] at h
  exact lk_retv X h d_MO_die_63 (rfl)
