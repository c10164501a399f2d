def lk_lt (x1 x2 x3 x4 : Value) : va_E := .inr (0, [x1, x2, x3, x4, .int 0])
def lk_qa (c : ClassId) (N : Nat) (n : Nat → Nat) (i : Nat) : va_E := .inl (c, N, .inr (.inr (.inr (.inr (fun j => if j < i then some (n j) else none)))))
theorem lk_qa_up (n : Nat → Nat) (i q : Nat) : va_up (fun j => if j < i then some (n j) else none) i (some q) = fun j => if j < i + 1 then some (va_up n i q j) else none := by
  funext j
  by_cases h : j = i
  · subst h
    rw [va_up_self, if_pos (by omega), va_up_self]
  · rw [va_up_ne _ _ h, va_up_ne _ _ h]
    by_cases h2 : j < i
    · rw [if_pos h2, if_pos (by omega)]
    · rw [if_neg h2, if_neg (by omega)]
theorem lk_nl_s {τ : Nat → ClassId} {n k z : Nat → Nat} {i q u v : Nat} : lk_nl τ (va_up n i q) (va_up k i u) (va_up z i v) (i + 1) = (lk_nl τ n k z i ++ [(q, .inr (1, lk_nd1 (lk_num i) u v))]) ++ [(u, lk_ar τ 5), (v, lk_ar τ 5)] := by
  show (lk_nl τ (va_up n i q) (va_up k i u) (va_up z i v) i ++ [(va_up n i q i, .inr (1, lk_nd1 (lk_num i) (va_up k i u i) (va_up z i v i)))]) ++ [(va_up k i u i, lk_ar τ 5), (va_up z i v i, lk_ar τ 5)] = _
  rw [va_up_self, va_up_self, va_up_self, lk_nl_congr (n' := n) (k' := k) (s' := z) i (fun j hj => ⟨va_up_ne _ _ (by omega), va_up_ne _ _ (by omega), va_up_ne _ _ (by omega)⟩)]
theorem lk_tl_s {τ : Nat → ClassId} {n k : Nat → Nat} {i q u : Nat} : lk_tl τ (va_up n i q) (va_up k i u) (i + 1) = (lk_tl τ n k i ++ [(q, .inr (2, lk_ta1 (nI i) u))]) ++ [(u, lk_ar τ 25)] := by
  show (lk_tl τ (va_up n i q) (va_up k i u) i ++ [(va_up n i q i, .inr (2, lk_ta1 (nI i) (va_up k i u i)))]) ++ [(va_up k i u i, lk_ar τ 25)] = _
  rw [va_up_self, va_up_self, lk_tl_congr (t' := n) (k' := k) i (fun j hj => ⟨va_up_ne _ _ (by omega), va_up_ne _ _ (by omega)⟩)]
theorem lk_fsN : ∀ j, j < 11 → defaultValue (ty_ND j) = vp_V lk_nd0 j := fun j hj => by
  rcases (show j = 0 ∨ j = 1 ∨ j = 2 ∨ j = 3 ∨ j = 4 ∨ j = 5 ∨ j = 6 ∨ j = 7 ∨ j = 8 ∨ j = 9 ∨ j = 10 by omega) with rfl | rfl | rfl | rfl | rfl | rfl | rfl | rfl | rfl | rfl | rfl <;> rfl
theorem lk_fsT : ∀ j, j < 16 → defaultValue (ty_TA j) = vp_V lk_ta0 j := fun j hj => by
  rcases (show j = 0 ∨ j = 1 ∨ j = 2 ∨ j = 3 ∨ j = 4 ∨ j = 5 ∨ j = 6 ∨ j = 7 ∨ j = 8 ∨ j = 9 ∨ j = 10 ∨ j = 11 ∨ j = 12 ∨ j = 13 ∨ j = 14 ∨ j = 15 by omega) with rfl | rfl | rfl | rfl | rfl | rfl | rfl | rfl | rfl | rfl | rfl | rfl | rfl | rfl | rfl | rfl <;> rfl
theorem lk_fsS : ∀ j, j < 2 → defaultValue (ty_SP j) = vp_V [.null, .int 0] j := fun j hj => by
  rcases (show j = 0 ∨ j = 1 by omega) with rfl | rfl <;> rfl
section Loops
variable {pg : Program} {l : Launch} {en : Env} {R : Room} {s : State} {m : MethodId} {args : Array Value} {below : List Frame} {meth : Method} {cd : Code} {Q : State → Prop} {D : va_G} {τ : Nat → ClassId} {A : Nat → Prop}
theorem w_LT_i1 (X : lk_X pg s m args meth cd y_LT_init b_LT_init 2 none D τ) (hA : ∀ q, s.heap.size ≤ q → A q) (hR : 2 ≤ R.frames ∧ 41 ≤ R.locals ∧ 87 ≤ R.cells ∧ 731 ≤ R.slots) {a a1 : Nat} : ∀ (r i : Nat), i + r = 24 → ∀ (n k z : Nat → Nat) (H : Heap) (locs : List Loc) (ls : Array Slot), lk_H D lk_cl A s.heap ((a, lk_lt (.ref a1) .null .null .null) :: (a1, lk_qa (τ 2) 24 n i) :: lk_nl τ n k z i) H locs → lv_has ls 2 [(1, .int (nI i)), (0, .ref a)] → (∀ (n k z : Nat → Nat) (H : Heap) (locs : List Loc) (ls : Array Slot), lk_H D lk_cl A s.heap ((a, lk_lt (.ref a1) .null .null .null) :: (a1, lk_qa (τ 2) 24 n 24) :: lk_nl τ n k z 24) H locs → lv_has ls 2 [(1, .int (nI 24)), (0, .ref a)] → W pg l en R s m args below meth cd H locs (1 + 3 * 24) (24 + 21 * 24) Q (F0 m 41 ls [])) → W pg l en R s m args below meth cd H locs (1 + 3 * i) (24 + 21 * i) Q (F0 m 15 ls []) := by
  obtain ⟨hx, hb, -⟩ := id X
  intro r
  induction r with
  | zero =>
    intro i hi n k z H locs ls h hl kk
    have hi : i = 24 := by omega
    subst hi
    refine lv_iload_n hx hb d_LT_init_15 rfl (lv_at hl 0 rfl) ?_
    refine lv_bipush (v := nI 24) hx hb d_LT_init_16 (by decide) ?_
    refine lk_cN_ge (tgt := 41) hx hb (by omega) (by omega) d_LT_init_18 (by decide) (fun h1 => ?_) (fun h1 => ?_)
    · exact kk n k z H locs ls h hl
    · omega
  | succ r ih =>
    intro i hi n k z H locs ls h hl kk
    refine lv_iload_n hx hb d_LT_init_15 rfl (lv_at hl 0 rfl) ?_
    refine lv_bipush (v := nI 24) hx hb d_LT_init_16 (by decide) ?_
    refine lk_cN_ge (tgt := 41) hx hb (by omega) (by omega) d_LT_init_18 (by decide) (fun h1 => ?_) (fun h1 => ?_)
    · omega
    · refine lv_aload_n hx hb d_LT_init_21 rfl (lv_at hl 1 rfl) ?_
      refine in_get X rfl h 0 rfl rfl gl_LT 0 (by decide) gf_LT_11 rfl rfl d_LT_init_22 ?_
      refine lv_iload_n hx hb d_LT_init_25 rfl (lv_at hl 0 rfl) ?_
      refine in_newO (ci := 1) X rfl h hA gl_ND ty_ND_ok ⟨gk_LT_9, ga_ND, gn_ND⟩ rfl lk_fsN (by have := hR.2.2.1; omega) (by have := hR.2.2.2; omega) d_LT_init_26 (fun q H h => ?_)
      refine lv_dup hx hb d_LT_init_29 rfl ?_
      refine lv_iload_n hx hb d_LT_init_30 rfl (lv_at hl 0 rfl) ?_
      refine in_ctor (av := [.int (nI i)]) X rfl h hA (c_ND_init l D τ _ q (nI i)) ⟨gc_ND_init, gm_LT_15, gn_ND, gi_ND_init⟩ rfl gd_ND_init ⟨hR.1, hR.2.1⟩ rfl hl.1 (Nat.le_of_ble_eq_true rfl) d_LT_init_31 (by have := hR.2.2.1; omega) (by have := hR.2.2.2; omega) (fun u H locs h => ?_)
      have hlen : ((a, lk_lt (.ref a1) .null .null .null) :: (a1, lk_qa (τ 2) 24 n i) :: lk_nl τ n k z i).length = 2 + 3 * i := by
        show (lk_nl τ n k z i).length + 1 + 1 = _
        rw [lk_nl_len]
        omega
      have e1 : nI i = lk_num i := (lk_num_lt (by omega)).symm
      rw [e1] at h
      refine in_astq (t0 := 2) (qk := 2 + 3 * i) (ci := 1) (i := i) (n := 24) (f := fun j => if j < i then some (n j) else none) (ws2 := (a, lk_lt (.ref a1) .null .null .null) :: (a1, lk_qa (τ 2) 24 (va_up n i q) (i + 1)) :: lk_nl τ (va_up n i q) (va_up k i u.1) (va_up z i u.2) (i + 1)) X h 1 rfl rfl (by rw [← hlen]; exact lk_getm) rfl (by omega) (by decide) ?_ d_LT_init_34 (fun H locs h => ?_)
      · rw [lk_qa_up, lk_nl_s]
        rfl
      · refine W.widen (k := 1 + 3 * (i + 1)) (n := 24 + 21 * (i + 1)) (by omega) (by omega) ?_
        refine lv_iinc (k := 0) (v := nI (i + 1)) hx hb d_LT_init_35 hl rfl (nI_1 _) (by decide) rfl (fun ls hl => ?_)
        refine lv_goto (tgt := 15) hx hb d_LT_init_38 (by decide) ?_
        exact ih (i + 1) (by omega) _ _ _ H locs ls h hl kk
theorem w_LT_i2 (X : lk_X pg s m args meth cd y_LT_init b_LT_init 2 none D τ) (hA : ∀ q, s.heap.size ≤ q → A q) (hR : 2 ≤ R.frames ∧ 41 ≤ R.locals ∧ 87 ≤ R.cells ∧ 731 ≤ R.slots) {a a1 a2 a3 : Nat} {P : va_W} : ∀ (r i : Nat), i + r = 4 → ∀ (n k : Nat → Nat) (H : Heap) (locs : List Loc) (ls : Array Slot), lk_H D lk_cl A s.heap ((((a, lk_lt (.ref a1) (.ref a2) (.ref a3) .null) :: P) ++ [(a3, lk_qa (τ 3) 4 n i)]) ++ lk_tl τ n k i) H locs → lv_has ls 2 [(1, .int (nI i)), (0, .ref a)] → (∀ (n k : Nat → Nat) (H : Heap) (locs : List Loc) (ls : Array Slot), lk_H D lk_cl A s.heap ((((a, lk_lt (.ref a1) (.ref a2) (.ref a3) .null) :: P) ++ [(a3, lk_qa (τ 3) 4 n 4)]) ++ lk_tl τ n k 4) H locs → lv_has ls 2 [(1, .int (nI 4)), (0, .ref a)] → W pg l en R s m args below meth cd H locs (77 + 2 * 4) (553 + 41 * 4) Q (F0 m 96 ls [])) → W pg l en R s m args below meth cd H locs (77 + 2 * i) (553 + 41 * i) Q (F0 m 71 ls []) := by
  obtain ⟨hx, hb, -⟩ := id X
  intro r
  induction r with
  | zero =>
    intro i hi n k H locs ls h hl kk
    have hi : i = 4 := by omega
    subst hi
    refine lv_iload_n hx hb d_LT_init_71 rfl (lv_at hl 0 rfl) ?_
    refine lv_iconst (v := nI 4) hx hb d_LT_init_72 (by decide) ?_
    refine lk_cN_ge (tgt := 96) hx hb (by omega) (by omega) d_LT_init_73 (by decide) (fun h1 => ?_) (fun h1 => ?_)
    · exact kk n k H locs ls h hl
    · omega
  | succ r ih =>
    intro i hi n k H locs ls h hl kk
    refine lv_iload_n hx hb d_LT_init_71 rfl (lv_at hl 0 rfl) ?_
    refine lv_iconst (v := nI 4) hx hb d_LT_init_72 (by decide) ?_
    refine lk_cN_ge (tgt := 96) hx hb (by omega) (by omega) d_LT_init_73 (by decide) (fun h1 => ?_) (fun h1 => ?_)
    · omega
    · refine lv_aload_n hx hb d_LT_init_76 rfl (lv_at hl 1 rfl) ?_
      refine in_get X rfl h 0 rfl rfl gl_LT 2 (by decide) gf_LT_28 rfl rfl d_LT_init_77 ?_
      refine lv_iload_n hx hb d_LT_init_80 rfl (lv_at hl 0 rfl) ?_
      refine in_newO (ci := 2) X rfl h hA gl_TA ty_TA_ok ⟨gk_LT_26, ga_TA, gn_TA⟩ rfl lk_fsT (by have := hR.2.2.1; omega) (by have := hR.2.2.2; omega) d_LT_init_81 (fun q H h => ?_)
      refine lv_dup hx hb d_LT_init_84 rfl ?_
      refine lv_iload_n hx hb d_LT_init_85 rfl (lv_at hl 0 rfl) ?_
      refine in_ctor (av := [.int (nI i)]) X rfl h hA (c_TA_init l D τ _ q (nI i)) ⟨gc_TA_init, gm_LT_32, gn_TA, gi_TA_init⟩ rfl gd_TA_init ⟨hR.1, hR.2.1⟩ rfl hl.1 (Nat.le_of_ble_eq_true rfl) d_LT_init_86 (by have := hR.2.2.1; omega) (by have := hR.2.2.2; omega) (fun u H locs h => ?_)
      have ew : ((((((a, lk_lt (.ref a1) (.ref a2) (.ref a3) .null) :: P) ++ [(a3, lk_qa (τ 3) 4 n i)]) ++ lk_tl τ n k i) ++ [(q, (.inr (2, lk_ta1 (nI i) u.1) : va_E))]) ++ [(u.1, lk_ar τ 25)]) = (((a, lk_lt (.ref a1) (.ref a2) (.ref a3) .null) :: P) ++ [(a3, lk_qa (τ 3) 4 n i)]) ++ lk_tl τ (va_up n i q) (va_up k i u.1) (i + 1) := by
        rw [lk_tl_s]
        simp only [List.append_assoc]
      have hv : ((((((a, lk_lt (.ref a1) (.ref a2) (.ref a3) .null) :: P) ++ [(a3, lk_qa (τ 3) 4 n i)]) ++ lk_tl τ n k i) ++ [(q, (.inr (2, lk_ta1 (nI i) u.1) : va_E))]) ++ [(u.1, lk_ar τ 25)])[((((a, lk_lt (.ref a1) (.ref a2) (.ref a3) .null) :: P) ++ [(a3, lk_qa (τ 3) 4 n i)]) ++ lk_tl τ n k i).length]? = some (q, .inr (2, lk_ta1 (nI i) u.1)) := lk_getm
      rw [ew] at hv
      have h : lk_H D lk_cl A s.heap ((((a, lk_lt (.ref a1) (.ref a2) (.ref a3) .null) :: P) ++ [(a3, lk_qa (τ 3) 4 n i)]) ++ lk_tl τ (va_up n i q) (va_up k i u.1) (i + 1)) H locs := by rw [← ew]; exact h
      refine in_astq (t0 := 3) (ci := 2) (i := i) (n := 4) (f := fun j => if j < i then some (n j) else none) (ws2 := (((a, lk_lt (.ref a1) (.ref a2) (.ref a3) .null) :: P) ++ [(a3, lk_qa (τ 3) 4 (va_up n i q) (i + 1))]) ++ lk_tl τ (va_up n i q) (va_up k i u.1) (i + 1)) X h _ lk_getm rfl hv rfl (by omega) (by decide) ?_ d_LT_init_89 (fun H locs h => ?_)
      · rw [lk_setm, lk_qa_up]
        rfl
      · refine W.widen (k := 77 + 2 * (i + 1)) (n := 553 + 41 * (i + 1)) (by omega) (by omega) ?_
        refine lv_iinc (k := 0) (v := nI (i + 1)) hx hb d_LT_init_90 hl rfl (nI_1 _) (by decide) rfl (fun ls hl => ?_)
        refine lv_goto (tgt := 71) hx hb d_LT_init_93 (by decide) ?_
        exact ih (i + 1) (by omega) _ _ H locs ls h hl kk
end Loops
