/-- a sum; the entries under a page of level f; a page of level f whose children are such -/
def lk_sm (g : Nat → Int32) : Nat → Int32
  | 0 => 0
  | i + 1 => lk_sm g i + g i
def lk_un (M : lk_M) : Nat → Nat → Int32
  | 0, q => M 5 q
  | f + 1, q => lk_sm (fun i => lk_un M f (M 8 (5 * q + i)).toNatClampNeg) (M 5 q).toNatClampNeg
def lk_tw (M : lk_M) : Nat → Nat → Prop
  | 0, q => q < 24 ∧ M 0 q = 1 ∧ M 1 q = nI 0 ∧ ∃ n, n ≤ 4 ∧ M 5 q = nI n
  | f + 1, q => q < 24 ∧ M 0 q = 1 ∧ M 1 q = nI (f + 1) ∧ ∃ n, n ≤ 4 ∧ M 5 q = nI n ∧ ∀ i, i < n → ∃ d : Nat, M 8 (5 * q + i) = nI d ∧ lk_tw M f d
theorem lk_tw_lt {M : lk_M} {f q : Nat} (h : lk_tw M f q) : q < 24 ∧ M 1 q = nI f ∧ ∃ n, n ≤ 4 ∧ M 5 q = nI n := by
  cases f with
  | zero => exact ⟨h.1, h.2.2.1, h.2.2.2⟩
  | succ f =>
    obtain ⟨h1, _, h2, n, h3, h4, _⟩ := h
    exact ⟨h1, h2, n, h3, h4⟩
/-- the stack's own field -/
def lk_op (M : lk_M) (g : Nat → Int32) : lk_M := va_up M 23 g
theorem lk_op_f {M : lk_M} {g : Nat → Int32} {f i : Nat} (h : f ≠ 23) : lk_op M g f i = M f i := by
  unfold lk_op; rw [lk_up_eq, if_neg h]
theorem lk_op_23 {M : lk_M} {g : Nat → Int32} {i : Nat} : lk_op M g 23 i = g i := by
  unfold lk_op; rw [lk_up_eq, if_pos rfl]
theorem lk_op_st {M : lk_M} {g : Nat → Int32} {i : Nat} {v : Int32} : lk_st (lk_op M g) 23 i v = lk_op M (upd g i v) := by
  funext f j
  unfold lk_op
  simp only [lk_st_eq, lk_up_eq, upd]
  by_cases h : f = 23
  · subst h; simp
  · simp [h]
section
variable {pg : Program} {l : Launch} {en : Env} {R : Room} {s : State} {m : MethodId} {args : Array Value} {below : List Frame} {meth : Method} {cd : Code} {H : Heap} {locs : List Loc} {cells slots : Nat} {Q : State → Prop} {D : va_G} {τ : Nat → ClassId} {ad : Nat → Nat} {A : Nat → Prop} {H0 : Heap} {M : lk_M}
theorem w_MO_push (X : lk_X pg s m args meth cd y_MO_under b_MO_under 6 (some (.int)) D τ) {q k n f : Nat} {s0 x : Int32} (hq : q < 24) (hc : M 5 q = nI k) (hk : k ≤ 4) (hl1 : M 1 q = nI (f + 1)) (hf : f < 24) (hn : n + k ≤ 120) : ∀ (r i : Nat), i + r = k → ∀ (g : Nat → Int32), (∀ j, j < i → g (n + j) = M 8 (5 * q + j)) → ∀ (H : Heap) (locs : List Loc) (ls : Array Slot) (L : List (Nat × Value)), L.Perm [(5, .int (nI i)), (2, .int s0), (4, .int (nI q)), (3, .int (nI (n + i))), (0, .ref (ad 0)), (1, .int x)] → lk_H D lk_cl A H0 (lk_w 25 ad (lk_me τ ad (lk_op M g))) H locs → lv_has ls 6 L → (∀ (g2 : Nat → Int32) (H : Heap) (locs : List Loc) (ls : Array Slot), (∀ j, j < n → g2 j = g j) → (∀ j, j < k → g2 (n + j) = M 8 (5 * q + j)) → lk_H D lk_cl A H0 (lk_w 25 ad (lk_me τ ad (lk_op M g2))) H locs → lv_has ls 6 [(5, .int (nI k)), (2, .int s0), (4, .int (nI q)), (3, .int (nI (n + k))), (0, .ref (ad 0)), (1, .int x)] → W pg l en R s m args below meth cd H locs cells slots Q (F0 m 125 ls [])) → W pg l en R s m args below meth cd H locs cells slots Q (F0 m 76 ls []) := by
  obtain ⟨hx, hb, -⟩ := id X
  intro r
  induction r with
  | zero =>
    intro i hi g hg H locs ls L hL h hl kk
    have hi : i = k := by omega
    subst hi
    have hl : lv_has ls 6 [(5, .int (nI i)), (2, .int s0), (4, .int (nI q)), (3, .int (nI (n + i))), (0, .ref (ad 0)), (1, .int x)] := ⟨hl.1, hl.2.1, fun z hz => hl.2.2 z (hL.mem_iff.mpr hz)⟩
    have hc1 := (lk_op_f (M := M) (g := g) (f := 5) (i := q) (by decide)).trans hc
    refine lv_iload hx hb d_MO_under_76 (lv_at hl 0 rfl) ?_
    refine lv_aload_n hx hb d_MO_under_78 rfl (lv_at hl 4 rfl) ?_
    refine mo_get X rfl h 6 (by decide) rfl gf_MO_25 rfl d_MO_under_79 ?_
    refine lv_iload hx hb d_MO_under_82 (lv_at hl 2 rfl) ?_
    refine mo_ald X h 5 24 rfl (by decide) (j := q) (by omega) (by decide) d_MO_under_84 ?_
    refine lk_top (nI i) (hc1) ?_
    refine lk_cN_ge (tgt := 125) hx hb (by omega) (by omega) d_MO_under_85 (by decide) (fun h1 => ?_) (fun h1 => ?_)
    · exact kk g H locs ls (fun _ _ => rfl) hg h hl
    · omega
  | succ r ih =>
    intro i hi g hg H locs ls L hL h hl kk
    have hl : lv_has ls 6 [(5, .int (nI i)), (2, .int s0), (4, .int (nI q)), (3, .int (nI (n + i))), (0, .ref (ad 0)), (1, .int x)] := ⟨hl.1, hl.2.1, fun z hz => hl.2.2 z (hL.mem_iff.mpr hz)⟩
    have hc1 := (lk_op_f (M := M) (g := g) (f := 5) (i := q) (by decide)).trans hc
    have hl2 := (lk_op_f (M := M) (g := g) (f := 1) (i := q) (by decide)).trans hl1
    have h8 := lk_op_f (M := M) (g := g) (f := 8) (i := 5 * q + i) (by decide)
    refine lv_iload hx hb d_MO_under_76 (lv_at hl 0 rfl) ?_
    refine lv_aload_n hx hb d_MO_under_78 rfl (lv_at hl 4 rfl) ?_
    refine mo_get X rfl h 6 (by decide) rfl gf_MO_25 rfl d_MO_under_79 ?_
    refine lv_iload hx hb d_MO_under_82 (lv_at hl 2 rfl) ?_
    refine mo_ald X h 5 24 rfl (by decide) (j := q) (by omega) (by decide) d_MO_under_84 ?_
    refine lk_top (nI k) (hc1) ?_
    refine lk_cN_ge (tgt := 125) hx hb (by omega) (by omega) d_MO_under_85 (by decide) (fun h1 => ?_) (fun h1 => ?_)
    · omega
    · refine lv_aload_n hx hb d_MO_under_88 rfl (lv_at hl 4 rfl) ?_
      refine mo_get X rfl h 2 (by decide) rfl gf_MO_13 rfl d_MO_under_89 ?_
      refine lv_iload hx hb d_MO_under_92 (lv_at hl 2 rfl) ?_
      refine mo_ald X h 1 24 rfl (by decide) (j := q) (by omega) (by decide) d_MO_under_94 ?_
      refine lk_top (nI (f + 1)) (hl2) ?_
      refine lv_if_le (tgt := 125) hx hb d_MO_under_95 (by decide) (fun h2 => ?_) (fun h2 => ?_)
      · exact absurd h2 (nI_nle (by omega) (by omega))
      · refine lv_aload_n hx hb d_MO_under_98 rfl (lv_at hl 4 rfl) ?_
        refine mo_get X rfl h 26 (by decide) rfl gf_MO_80 rfl d_MO_under_99 ?_
        refine lv_iload_n hx hb d_MO_under_102 rfl (lv_at hl 3 rfl) ?_
        refine lv_aload_n hx hb d_MO_under_103 rfl (lv_at hl 4 rfl) ?_
        refine mo_get X rfl h 9 (by decide) rfl gf_MO_34 rfl d_MO_under_104 ?_
        refine lv_iconst (v := nI 5) hx hb d_MO_under_107 (by decide) ?_
        refine lv_iload hx hb d_MO_under_108 (lv_at hl 2 rfl) ?_
        refine lk_imulN hx hb d_MO_under_110 ?_
        refine lv_iload hx hb d_MO_under_111 (lv_at hl 0 rfl) ?_
        refine lk_iaddN hx hb d_MO_under_113 ?_
        refine mo_ald X h 8 120 rfl (by decide) (j := 5 * q + i) (by omega) (by decide) d_MO_under_114 ?_
        refine lk_top (M 8 (5 * q + i)) (h8) ?_
        refine mo_ast X h 23 120 rfl (by decide) (j := n + i) (v := M 8 (5 * q + i)) (by omega) (by decide) d_MO_under_115 (fun H locs h => ?_)
        refine lv_iinc (k := 3) (v := nI (n + i + 1)) hx hb d_MO_under_116 hl rfl (nI_1 _) (by decide) rfl (fun ls hl => ?_)
        have hl : lv_has ls 6 [(3, .int (nI (n + i + 1))), (5, .int (nI i)), (2, .int s0), (4, .int (nI q)), (0, .ref (ad 0)), (1, .int x)] := hl
        refine lv_iinc (k := 1) (v := nI (i + 1)) hx hb d_MO_under_119 hl rfl (nI_1 _) (by decide) rfl (fun ls hl => ?_)
        have hl : lv_has ls 6 [(5, .int (nI (i + 1))), (3, .int (nI (n + i + 1))), (2, .int s0), (4, .int (nI q)), (0, .ref (ad 0)), (1, .int x)] := hl
        refine lv_goto (tgt := 76) hx hb d_MO_under_122 (by decide) ?_
        rw [lk_op_st] at h
        refine ih (i + 1) (by omega) (upd g (n + i) (M 8 (5 * q + i))) (fun j hj => ?_) H locs ls _ (List.Perm.refl _) h ?_ (fun g2 H locs ls e1 e2 h hl => kk g2 H locs ls (fun j hj => (e1 j hj).trans (by unfold upd; rw [if_neg (by omega)])) e2 h hl)
        · unfold upd
          by_cases e : j = i
          · rw [if_pos (by omega), e]
          · rw [if_neg (by omega)]; exact hg j (by omega)
        · exact lv_sub hl [0, 2, 3, 1, 4, 5] rfl
def lk_uL (ls : Array Slot) (ad : Nat → Nat) (x s0 : Int32) (n : Nat) : Prop := lv_has ls 6 [(2, .int s0), (3, .int (nI n)), (0, .ref (ad 0)), (1, .int x)]
theorem w_MO_sub (X : lk_X pg s m args meth cd y_MO_under b_MO_under 6 (some (.int)) D τ) {x : Int32} (hfr : True) : ∀ (f : Nat), f < 24 → ∀ (q n : Nat) (s0 : Int32), lk_tw M f q → n + 1 + 3 * f ≤ 118 → ∀ (g : Nat → Int32), g n = nI q → ∀ (H : Heap) (locs : List Loc) (ls : Array Slot), lk_H D lk_cl A H0 (lk_w 25 ad (lk_me τ ad (lk_op M g))) H locs → lk_uL ls ad x s0 (n + 1) → (∀ (g2 : Nat → Int32) (H : Heap) (locs : List Loc) (ls : Array Slot), (∀ j, j < n → g2 j = g j) → lk_H D lk_cl A H0 (lk_w 25 ad (lk_me τ ad (lk_op M g2))) H locs → lk_uL ls ad x (s0 + lk_un M f q) n → W pg l en R s m args below meth cd H locs cells slots Q (F0 m 34 ls [])) → W pg l en R s m args below meth cd H locs cells slots Q (F0 m 34 ls []) := by
  obtain ⟨hx, hb, -⟩ := id X
  intro f
  induction f with
  | zero =>
    intro hf q n s0 hw hn g hg H locs ls h hl kk
    obtain ⟨hq, _, hl1, k, hk, hc⟩ := hw
    have hl : lv_has ls 6 [(2, .int s0), (3, .int (nI (n + 1))), (0, .ref (ad 0)), (1, .int x)] := hl
    have hg0 := (lk_op_23 (M := M) (g := g) (i := n)).trans hg
    have hc1 := (lk_op_f (M := M) (g := g) (f := 5) (i := q) (by decide)).trans hc
    have hl2 : lk_op M g 1 q = 0 := (lk_op_f (M := M) (g := g) (f := 1) (i := q) (by decide)).trans hl1
    refine lv_iload_n hx hb d_MO_under_34 rfl (lv_at hl 1 rfl) ?_
    refine lv_if_le (tgt := 128) hx hb d_MO_under_35 (by decide) (fun h1 => ?_) (fun h1 => ?_)
    · exact absurd h1 (nI_nle (by omega) (by omega))
    · refine lv_iinc (k := 1) (v := nI n) hx hb d_MO_under_38 hl rfl (pk_m1 _) (by decide) rfl (fun ls hl => ?_)
      have hl : lv_has ls 6 [(3, .int (nI n)), (2, .int s0), (0, .ref (ad 0)), (1, .int x)] := hl
      refine lv_aload_n hx hb d_MO_under_41 rfl (lv_at hl 2 rfl) ?_
      refine mo_get X rfl h 26 (by decide) rfl gf_MO_80 rfl d_MO_under_42 ?_
      refine lv_iload_n hx hb d_MO_under_45 rfl (lv_at hl 0 rfl) ?_
      refine mo_ald X h 23 120 rfl (by decide) (j := n) (by omega) (by decide) d_MO_under_46 ?_
      refine lk_top (nI q) (hg0) ?_
      refine lv_istore hx hb d_MO_under_47 hl (by decide) rfl (fun ls hl => ?_)
      have hl : lv_has ls 6 [(4, .int (nI q)), (3, .int (nI n)), (2, .int s0), (0, .ref (ad 0)), (1, .int x)] := hl
      refine lv_iload_n hx hb d_MO_under_49 rfl (lv_at hl 2 rfl) ?_
      refine lv_aload_n hx hb d_MO_under_50 rfl (lv_at hl 3 rfl) ?_
      refine mo_get X rfl h 2 (by decide) rfl gf_MO_13 rfl d_MO_under_51 ?_
      refine lv_iload hx hb d_MO_under_54 (lv_at hl 0 rfl) ?_
      refine mo_ald X h 1 24 rfl (by decide) (j := q) (by omega) (by decide) d_MO_under_56 ?_
      refine lk_top 0 (hl2) ?_
      refine lv_if_ne (tgt := 70) hx hb d_MO_under_57 (by decide) (fun z => absurd z (by decide)) (fun _ => ?_)
      refine lv_aload_n hx hb d_MO_under_60 rfl (lv_at hl 3 rfl) ?_
      refine mo_get X rfl h 6 (by decide) rfl gf_MO_25 rfl d_MO_under_61 ?_
      refine lv_iload hx hb d_MO_under_64 (lv_at hl 0 rfl) ?_
      refine mo_ald X h 5 24 rfl (by decide) (j := q) (by omega) (by decide) d_MO_under_66 ?_
      refine lk_top (nI k) (hc1) ?_
      refine lv_goto (tgt := 71) hx hb d_MO_under_67 (by decide) ?_
      refine lv_iadd hx hb d_MO_under_71 ?_
      refine lv_istore_n hx hb d_MO_under_72 rfl hl (by decide) rfl (fun ls hl => ?_)
      have hl : lv_has ls 6 [(2, .int (s0 + (nI k))), (4, .int (nI q)), (3, .int (nI n)), (0, .ref (ad 0)), (1, .int x)] := hl
      refine lv_iconst (v := nI 0) hx hb d_MO_under_73 (by decide) ?_
      refine lv_istore hx hb d_MO_under_74 hl (by decide) rfl (fun ls hl => ?_)
      have hl : lv_has ls 6 [(5, .int (nI 0)), (2, .int (s0 + (nI k))), (4, .int (nI q)), (3, .int (nI n)), (0, .ref (ad 0)), (1, .int x)] := hl
      refine lv_iload hx hb d_MO_under_76 (lv_at hl 0 rfl) ?_
      refine lv_aload_n hx hb d_MO_under_78 rfl (lv_at hl 4 rfl) ?_
      refine mo_get X rfl h 6 (by decide) rfl gf_MO_25 rfl d_MO_under_79 ?_
      refine lv_iload hx hb d_MO_under_82 (lv_at hl 2 rfl) ?_
      refine mo_ald X h 5 24 rfl (by decide) (j := q) (by omega) (by decide) d_MO_under_84 ?_
      refine lk_top (nI k) (hc1) ?_
      refine lk_cN_ge (tgt := 125) hx hb (by omega) (by omega) d_MO_under_85 (by decide) (fun h2 => ?_) (fun h2 => ?_)
      · refine lv_goto (tgt := 34) hx hb d_MO_under_125 (by decide) ?_
        refine kk g H locs ls (fun _ _ => rfl) h ?_
        have e : s0 + lk_un M 0 q = s0 + nI k := by show s0 + M 5 q = _; rw [hc]
        unfold lk_uL
        rw [e]
        exact lv_sub hl [1, 3, 4, 5] rfl
      · refine lv_aload_n hx hb d_MO_under_88 rfl (lv_at hl 4 rfl) ?_
        refine mo_get X rfl h 2 (by decide) rfl gf_MO_13 rfl d_MO_under_89 ?_
        refine lv_iload hx hb d_MO_under_92 (lv_at hl 2 rfl) ?_
        refine mo_ald X h 1 24 rfl (by decide) (j := q) (by omega) (by decide) d_MO_under_94 ?_
        refine lk_top 0 (hl2) ?_
        refine lv_if_le (tgt := 125) hx hb d_MO_under_95 (by decide) (fun _ => ?_) (fun z => absurd z (by decide))
        refine lv_goto (tgt := 34) hx hb d_MO_under_125 (by decide) ?_
        refine kk g H locs ls (fun _ _ => rfl) h ?_
        have e : s0 + lk_un M 0 q = s0 + nI k := by show s0 + M 5 q = _; rw [hc]
        unfold lk_uL
        rw [e]
        exact lv_sub hl [1, 3, 4, 5] rfl
  | succ f ihf =>
    intro hf q n s0 hw hn g hg H locs ls h hl kk
    obtain ⟨hq, _, hl1, k, hk, hc, hch⟩ := hw
    have hl : lv_has ls 6 [(2, .int s0), (3, .int (nI (n + 1))), (0, .ref (ad 0)), (1, .int x)] := hl
    have hg0 := (lk_op_23 (M := M) (g := g) (i := n)).trans hg
    have hc1 := (lk_op_f (M := M) (g := g) (f := 5) (i := q) (by decide)).trans hc
    have hl2 := (lk_op_f (M := M) (g := g) (f := 1) (i := q) (by decide)).trans hl1
    refine lv_iload_n hx hb d_MO_under_34 rfl (lv_at hl 1 rfl) ?_
    refine lv_if_le (tgt := 128) hx hb d_MO_under_35 (by decide) (fun h1 => ?_) (fun h1 => ?_)
    · exact absurd h1 (nI_nle (by omega) (by omega))
    · refine lv_iinc (k := 1) (v := nI n) hx hb d_MO_under_38 hl rfl (pk_m1 _) (by decide) rfl (fun ls hl => ?_)
      have hl : lv_has ls 6 [(3, .int (nI n)), (2, .int s0), (0, .ref (ad 0)), (1, .int x)] := hl
      refine lv_aload_n hx hb d_MO_under_41 rfl (lv_at hl 2 rfl) ?_
      refine mo_get X rfl h 26 (by decide) rfl gf_MO_80 rfl d_MO_under_42 ?_
      refine lv_iload_n hx hb d_MO_under_45 rfl (lv_at hl 0 rfl) ?_
      refine mo_ald X h 23 120 rfl (by decide) (j := n) (by omega) (by decide) d_MO_under_46 ?_
      refine lk_top (nI q) (hg0) ?_
      refine lv_istore hx hb d_MO_under_47 hl (by decide) rfl (fun ls hl => ?_)
      have hl : lv_has ls 6 [(4, .int (nI q)), (3, .int (nI n)), (2, .int s0), (0, .ref (ad 0)), (1, .int x)] := hl
      refine lv_iload_n hx hb d_MO_under_49 rfl (lv_at hl 2 rfl) ?_
      refine lv_aload_n hx hb d_MO_under_50 rfl (lv_at hl 3 rfl) ?_
      refine mo_get X rfl h 2 (by decide) rfl gf_MO_13 rfl d_MO_under_51 ?_
      refine lv_iload hx hb d_MO_under_54 (lv_at hl 0 rfl) ?_
      refine mo_ald X h 1 24 rfl (by decide) (j := q) (by omega) (by decide) d_MO_under_56 ?_
      refine lk_top (nI (f + 1)) (hl2) ?_
      refine lv_if_ne (tgt := 70) hx hb d_MO_under_57 (by decide) (fun h2 => ?_) (fun h2 => ?_)
      · refine lv_iconst (v := 0) hx hb d_MO_under_70 (by decide) ?_
        refine lv_iadd hx hb d_MO_under_71 ?_
        refine lv_istore_n hx hb d_MO_under_72 rfl hl (by decide) rfl (fun ls hl => ?_)
        have hl : lv_has ls 6 [(2, .int (s0 + 0)), (4, .int (nI q)), (3, .int (nI n)), (0, .ref (ad 0)), (1, .int x)] := hl
        refine lv_iconst (v := nI 0) hx hb d_MO_under_73 (by decide) ?_
        refine lv_istore hx hb d_MO_under_74 hl (by decide) rfl (fun ls hl => ?_)
        have hl : lv_has ls 6 [(5, .int (nI 0)), (2, .int (s0 + 0)), (4, .int (nI q)), (3, .int (nI n)), (0, .ref (ad 0)), (1, .int x)] := hl
        refine w_MO_push X hq hc hk hl1 (by omega) (by omega) k 0 (by omega) g (fun j hj => by omega) H locs ls [(5, .int (nI 0)), (2, .int (s0 + 0)), (4, .int (nI q)), (3, .int (nI (n + 0))), (0, .ref (ad 0)), (1, .int x)] (List.Perm.refl _) h ?_ (fun g2 H locs ls e1 e2 h hl => ?_)
        · exact hl
        have kids : ∀ (r : Nat), r ≤ k → ∀ (g3 : Nat → Int32) (s1 : Int32), (∀ j, j < n → g3 j = g j) → (∀ j, j < r → g3 (n + j) = M 8 (5 * q + j)) → s1 + lk_sm (fun i => lk_un M f (M 8 (5 * q + i)).toNatClampNeg) r = s0 + lk_un M (f + 1) q → ∀ (H : Heap) (locs : List Loc) (ls : Array Slot), lk_H D lk_cl A H0 (lk_w 25 ad (lk_me τ ad (lk_op M g3))) H locs → lk_uL ls ad x s1 (n + r) → W pg l en R s m args below meth cd H locs cells slots Q (F0 m 34 ls []) := by
          intro r
          induction r with
          | zero =>
            intro _ g3 s1 hg1 hg2 hs H locs ls h hl
            refine kk g3 H locs ls hg1 h ?_
            rw [← hs]
            show lk_uL ls ad x (s1 + 0) n
            rw [show s1 + (0 : Int32) = s1 from Int32.add_zero s1]
            exact hl
          | succ r ihr =>
            intro hr g3 s1 hg1 hg2 hs H locs ls h hl
            obtain ⟨d, hd1, hd2⟩ := hch r (by omega)
            have hd := (lk_tw_lt hd2).1
            have ed : (M 8 (5 * q + r)).toNatClampNeg = d := by rw [hd1, nI_clamp (by omega)]
            refine ihf (by omega) d (n + r) s1 hd2 (by omega) g3 ((hg2 r (by omega)).trans hd1) H locs ls h hl (fun g4 H locs ls e4 h hl => ?_)
            refine ihr (by omega) g4 (s1 + lk_un M f d) (fun j hj => (e4 j (by omega)).trans (hg1 j hj)) (fun j hj => (e4 (n + j) (by omega)).trans (hg2 j (by omega))) ?_ H locs ls h hl
            rw [← hs]
            show s1 + lk_un M f d + _ = s1 + (lk_sm _ r + lk_un M f (M 8 (5 * q + r)).toNatClampNeg)
            rw [ed, Int32.add_assoc, Int32.add_comm (lk_un M f d)]
        refine lv_goto (tgt := 34) hx hb d_MO_under_125 (by decide) ?_
        refine kids k (Nat.le_refl _) g2 (s0 + 0) e1 e2 ?_ H locs ls h ?_
        · show s0 + 0 + _ = s0 + lk_sm _ (M 5 q).toNatClampNeg
          rw [hc, nI_clamp (by omega), show s0 + (0 : Int32) = s0 from Int32.add_zero s0]
        · exact lv_sub hl [1, 3, 4, 5] rfl
      · exact absurd h2 (nI_ne0 (by omega) (by omega))
end
set_option maxRecDepth 20000 in
theorem c_MO_under_bad (l : Launch) (D : va_G) (τ : Nat → ClassId) (ad : Nat → Nat) (M : lk_M) (x : Int32) (hbad : ¬ lk_isn M x) : lk_Ci l D τ 25 ad (lk_me τ ad) y_MO_under b_MO_under 6 (.int) 2 43 [.ref (ad 0), .int x] M (fun r M1 => r = 0 ∧ M1 = lk_st M 24 2 1) := by
  refine lk_openi (by decide +kernel) (Nat.le_of_ble_eq_true rfl) ?_
  intro pg en s m args below meth cd ls A X h hA hl
  obtain ⟨hx, hb, -⟩ := id X
  have hl : lv_has ls 6 [(0, .ref (ad 0)), (1, .int x)] := hl
  refine lv_aload_n hx hb d_MO_under_0 rfl (lv_at hl 0 rfl) ?_
  refine lv_aload_n hx hb d_MO_under_1 rfl (lv_at hl 0 rfl) ?_
  refine lv_iload_n hx hb d_MO_under_2 rfl (lv_at hl 1 rfl) ?_
  refine lk_goi (lk_runV (As := [.int x]) (C := R_MO) X h (c_MO_isNode l D τ ad M x) ⟨gc_MO_isNode, gm_MO_204, gn_MO, gd_MO_isNode, by decide, by decide⟩ gi_MO_isNode gs_MO_isNode ⟨0, 4, _, _, _, lk_w_get (by decide), rfl⟩ rfl hl.1 (Nat.le_of_ble_eq_true rfl) d_MO_under_3 ⟨Nat.zero_le _, Nat.zero_le _⟩) h hA (fun r3 σ3 H locs hk9 h => ?_)
  obtain ⟨hk9, hm9⟩ := hk9
  rw [hm9] at h
  rw [show r3 = 0 from hk9.elim (fun z => absurd z.2 hbad) (fun z => z.1)]
  refine lv_if_ne (tgt := 13) hx hb d_MO_under_6 (by decide) (fun z => absurd z (by decide)) (fun _ => ?_)
  refine lv_iconst (v := 1) hx hb d_MO_under_9 (by decide) ?_
  refine lv_goto (tgt := 14) hx hb d_MO_under_10 (by decide) ?_
  refine lv_iconst (v := 1) hx hb d_MO_under_14 (by decide) ?_
  refine lk_goi (lk_runV (As := [.int 1, .int 1]) (C := R_MO) X h (c_MO_fails l D τ ad _ 1 1 (by decide)) ⟨gc_MO_fails, gm_MO_119, gn_MO, gd_MO_fails, by decide, by decide⟩ gi_MO_fails gs_MO_fails ⟨0, 4, _, _, _, lk_w_get (by decide), rfl⟩ rfl hl.1 (Nat.le_of_ble_eq_true rfl) d_MO_under_15 ⟨Nat.zero_le _, Nat.zero_le _⟩) h hA (fun r15 σ15 H locs hk9 h => ?_)
  rw [hk9.2, if_neg (by decide)] at h
  rw [hk9.1]
  refine lv_if_eq (tgt := 23) hx hb d_MO_under_18 (by decide) (fun z => absurd z (by decide)) (fun _ => ?_)
  refine lv_iconst (v := 0) hx hb d_MO_under_21 (by decide) ?_
  exact lk_reti X h d_MO_under_22 (⟨rfl, rfl⟩)
theorem lk_tw_st {M : lk_M} {v : Int32} : ∀ (f q : Nat), lk_tw M f q → lk_tw (lk_st M 24 2 v) f q := by
  intro f
  induction f with
  | zero => intro q h; exact h
  | succ f ih =>
    intro q h
    obtain ⟨h1, h0, h2, n, h3, h4, h5⟩ := h
    exact ⟨h1, h0, h2, n, h3, h4, fun i hi => let ⟨d, d1, d2⟩ := h5 i hi; ⟨d, d1, ih d d2⟩⟩
theorem lk_un_st {M : lk_M} {v : Int32} : ∀ (f q : Nat), lk_un (lk_st M 24 2 v) f q = lk_un M f q := by
  intro f
  induction f with
  | zero => intro q; rfl
  | succ f ih =>
    intro q
    show lk_sm (fun i => lk_un (lk_st M 24 2 v) f (M 8 (5 * q + i)).toNatClampNeg) (M 5 q).toNatClampNeg = lk_sm _ _
    congr 1
    funext i
    exact ih _
set_option maxRecDepth 20000 in
theorem c_MO_under (l : Launch) (D : va_G) (τ : Nat → ClassId) (ad : Nat → Nat) (M : lk_M) (p f : Nat) (hp : p < 24) (hkd : M 0 p = 1) (hf : f < 24) (hw : lk_tw M f p) : lk_Ci l D τ 25 ad (lk_me τ ad) y_MO_under b_MO_under 6 (.int) 2 43 [.ref (ad 0), .int (nI p)] M (fun r M1 => r = lk_un M f p ∧ ∃ g, M1 = lk_op (lk_st M 24 2 0) g) := by
  refine lk_openi (by decide +kernel) (Nat.le_of_ble_eq_true rfl) ?_
  intro pg en s m args below meth cd ls A X h hA hl
  obtain ⟨hx, hb, -⟩ := id X
  have hl : lv_has ls 6 [(0, .ref (ad 0)), (1, .int (nI p))] := hl
  refine lv_aload_n hx hb d_MO_under_0 rfl (lv_at hl 0 rfl) ?_
  refine lv_aload_n hx hb d_MO_under_1 rfl (lv_at hl 0 rfl) ?_
  refine lv_iload_n hx hb d_MO_under_2 rfl (lv_at hl 1 rfl) ?_
  refine lk_goi (lk_runV (As := [.int (nI p)]) (C := R_MO) X h (c_MO_isNode l D τ ad M (nI p)) ⟨gc_MO_isNode, gm_MO_204, gn_MO, gd_MO_isNode, by decide, by decide⟩ gi_MO_isNode gs_MO_isNode ⟨0, 4, _, _, _, lk_w_get (by decide), rfl⟩ rfl hl.1 (Nat.le_of_ble_eq_true rfl) d_MO_under_3 ⟨Nat.zero_le _, Nat.zero_le _⟩) h hA (fun r3 σ3 H locs hk9 h => ?_)
  obtain ⟨hk9, hm9⟩ := hk9
  rw [hm9] at h
  rw [show r3 = 1 from hk9.elim (fun z => z.1) (fun z => absurd (show lk_isn M (nI p) from ⟨p, hp, rfl, hkd⟩) z.2)]
  refine lv_if_ne (tgt := 13) hx hb d_MO_under_6 (by decide) (fun _ => ?_) (fun z => absurd z (by decide))
  refine lv_iconst (v := 0) hx hb d_MO_under_13 (by decide) ?_
  refine lv_iconst (v := 1) hx hb d_MO_under_14 (by decide) ?_
  refine lk_goi (lk_runV (As := [.int 0, .int 1]) (C := R_MO) X h (c_MO_fails l D τ ad _ 0 1 (by decide)) ⟨gc_MO_fails, gm_MO_119, gn_MO, gd_MO_fails, by decide, by decide⟩ gi_MO_fails gs_MO_fails ⟨0, 4, _, _, _, lk_w_get (by decide), rfl⟩ rfl hl.1 (Nat.le_of_ble_eq_true rfl) d_MO_under_15 ⟨Nat.zero_le _, Nat.zero_le _⟩) h hA (fun r15 σ15 H locs hk9 h => ?_)
  rw [hk9.2, if_pos rfl] at h
  rw [hk9.1]
  refine lv_if_eq (tgt := 23) hx hb d_MO_under_18 (by decide) (fun _ => ?_) (fun z => absurd z (by decide))
  generalize hM0 : lk_st M 24 2 0 = M0 at *
  have hw0 : lk_tw M0 f p := by rw [← hM0]; exact lk_tw_st f p hw
  have hu0 : lk_un M0 f p = lk_un M f p := by rw [← hM0]; exact lk_un_st f p
  refine lv_iconst (v := 0) hx hb d_MO_under_23 (by decide) ?_
  refine lv_istore_n hx hb d_MO_under_24 rfl hl (by decide) rfl (fun ls hl => ?_)
  have hl : lv_has ls 6 [(2, .int 0), (0, .ref (ad 0)), (1, .int (nI p))] := hl
  refine lv_iconst (v := nI 1) hx hb d_MO_under_25 (by decide) ?_
  refine lv_istore_n hx hb d_MO_under_26 rfl hl (by decide) rfl (fun ls hl => ?_)
  have hl : lv_has ls 6 [(3, .int (nI 1)), (2, .int 0), (0, .ref (ad 0)), (1, .int (nI p))] := hl
  refine lv_aload_n hx hb d_MO_under_27 rfl (lv_at hl 2 rfl) ?_
  refine mo_get X rfl h 26 (by decide) rfl gf_MO_80 rfl d_MO_under_28 ?_
  refine lv_iconst (v := nI 0) hx hb d_MO_under_31 (by decide) ?_
  refine lv_iload_n hx hb d_MO_under_32 rfl (lv_at hl 3 rfl) ?_
  refine mo_ast X h 23 120 rfl (by decide) (j := 0) (v := nI p) (by omega) (by decide) d_MO_under_33 (fun H locs h => ?_)
  have e0 : lk_st M0 23 0 (nI p) = lk_op M0 (upd (M0 23) 0 (nI p)) := rfl
  rw [e0] at h
  refine w_MO_sub (x := nI p) X trivial f hf p 0 0 hw0 (by omega) (upd (M0 23) 0 (nI p)) rfl H locs ls h ?_ (fun g2 H locs ls _ h hl => ?_)
  · exact lv_sub hl [1, 0, 2, 3] rfl
  have hl : lv_has ls 6 [(2, .int (0 + lk_un M0 f p)), (3, .int (nI 0)), (0, .ref (ad 0)), (1, .int (nI p))] := hl
  refine lv_iload_n hx hb d_MO_under_34 rfl (lv_at hl 1 rfl) ?_
  refine lv_if_le (tgt := 128) hx hb d_MO_under_35 (by decide) (fun h1 => ?_) (fun h1 => ?_)
  · refine lv_iload_n hx hb d_MO_under_128 rfl (lv_at hl 0 rfl) ?_
    exact lk_reti X h d_MO_under_129 (⟨by rw [show (0 : Int32) + lk_un M0 f p = lk_un M0 f p from Int32.zero_add _]; exact hu0, g2, rfl⟩)
  · exact absurd (show nI 0 ≤ 0 by decide) h1
