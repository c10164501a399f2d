/-- the class's memory when it is new -/
def cc_I : lk_M := lk_mk cc_Z 0 0 (-1) 999 (-1)
/-- what the constructor wants beside the words -/
def lk_EL (U : State) : Prop := va_AO R_ND U ∧ va_AO R_TA U ∧ va_Nw (.methodLinkNest R_LT 35 y_SP_init R_LT) U
theorem lk_EL.warm {s U : State} (hW : s.WarmedH U.vm) (h : lk_EL s) : lk_EL U := ⟨va_AO.moved hW.alike h.1, va_AO.moved hW.alike h.2.1, va_Nw.warmM hW h.2.2⟩
def lk_lt0 : va_E := lk_lt .null .null .null .null
def lk_CL (l : Launch) (D : va_G) (τ : Nat → ClassId) (a : Nat) : Prop :=
  ∀ sz : Nat, Met l y_LT_init (.code y_LT_init b_LT_init 2 none :: lk_G) ({ frames := 2, cells := 87, slots := 731, locals := 60 }) (va_Pc [.ref a] (fun U => lk_Pre D τ [(a, lk_lt0)] sz U ∧ lk_EL U)) (va_Qv (fun u : Nat → Nat => u 0 = a) (fun u t => lk_Bh D τ 88 u (lk_ce τ u) cc_I t ∧ va_D (va_A [(a, lk_lt0)] sz) (lk_w 88 u (lk_ce τ u cc_I))) (va_A [(a, lk_lt0)] sz)) 87 731 (va_A [(a, lk_lt0)] sz)
set_option maxRecDepth 20000 in
theorem c_LT_init (l : Launch) (D : va_G) (τ : Nat → ClassId) (a : Nat) : lk_CL l D τ a := by
  intro sz
  refine Met.ofW (cc := b_LT_init) (maxL := 2) (ret := none) (by decide +kernel) rfl ?_
  intro pg en s m args below meth cd s₁ B hml hv
  obtain ⟨rfl, ⟨hsz, hP, hK, hD0⟩, hO1, hO2, hNl⟩ := hv
  have hts := atoms_spec (ws := .code y_LT_init b_LT_init 2 none :: lk_G) B.pre
  subst hsz
  have hD := hD0.self (sz := s.heap.size)
  have hl := lv_entry [.ref a] (n := 2) (Nat.le_of_ble_eq_true rfl)
  rw [lg_entry_eq]
  have X : lk_X pg s m _ meth cd y_LT_init b_LT_init 2 none D τ := ⟨B.exec, B.bytes, hml, B.returns, fun w hw => hts w (List.mem_cons_of_mem _ hw), findClass_of_methodNamed B.named, B.notSynchronized, hK⟩
  have hin : meth.name = "<init>" := (name_of_methodNamed B.named B.method).1
  generalize hAe : va_A [(a, lk_lt0)] s.heap.size = A at hD ⊢
  have hA : ∀ q : Nat, s.heap.size ≤ q → A q := fun q h => by rw [← hAe]; exact Or.inr h
  have h : lk_H D lk_cl A s.heap [(a, lk_lt0)] s.heap [] := ⟨hP, hD, va_S.rf⟩
  generalize (lg_sl [.ref a] ++ List.replicate (2 - (lg_sl [.ref a]).length) Slot.unset).toArray = ls at hl ⊢
  have hl : lv_has ls 2 [(0, .ref a)] := hl
  obtain ⟨hx, hb, -⟩ := id X
  refine lv_aload_n hx hb d_LT_init_0 rfl (lv_at hl 0 rfl) ?_
  refine in_obj X rfl gm_LT_3 hl.1 (by decide) (by decide) d_LT_init_1 ?_
  refine lv_aload_n hx hb d_LT_init_4 rfl (lv_at hl 0 rfl) ?_
  refine lv_bipush (v := nI 24) hx hb d_LT_init_5 (by decide) ?_
  refine in_newQ (t0 := 2) (C := R_ND) X rfl h hA gk_LT_9 hO1 rfl (by decide) (by decide) (by decide) d_LT_init_7 (fun a1 H h => ?_)
  have h : lk_H D lk_cl A s.heap [(a, .inr (0, [.null, .null, .null, .null, .int 0])), (a1, .inl (τ 2, 24, .inr (.inr (.inr (.inr (fun _ => none))))))] _ _ := h
  refine in_putF (v := .ref a1) X hin rfl h 0 rfl rfl gl_LT ty_LT_ok nm_LT 0 (by decide) (.array (.object "LinkTree$Node")) gf_LT_11 ⟨rfl, rfl, by decide +kernel⟩ ⟨rfl, rfl⟩ (Nat.le_of_ble_eq_true rfl) rfl d_LT_init_10 (fun H locs h => ?_)
  refine lv_iconst (v := nI 0) hx hb d_LT_init_13 (by decide) ?_
  refine lv_istore_n hx hb d_LT_init_14 rfl hl (by decide) rfl (fun ls hl => ?_)
  have hl : lv_has ls 2 [(1, .int (nI 0)), (0, .ref a)] := hl
  refine W.widen (k := 1 + 3 * 0) (n := 24 + 21 * 0) (by decide) (by decide) ?_
  refine w_LT_i1 (a := a) (a1 := a1) X hA ⟨by decide, by decide, by decide, by decide⟩ 24 0 (by omega) (fun _ => 0) (fun _ => 0) (fun _ => 0) H locs ls ?_ hl (fun n k z H locs ls h hl => ?_)
  · have e : (fun _ : Nat => (none : Option Nat)) = fun j => if j < 0 then some ((fun _ => 0 : Nat → Nat) j) else none := by funext j; rw [if_neg (by omega)]
    rw [e] at h
    exact h
  refine lv_aload_n hx hb d_LT_init_41 rfl (lv_at hl 1 rfl) ?_
  refine in_newO (ci := 1) X rfl h hA gl_ND ty_ND_ok ⟨gk_LT_9, ga_ND, gn_ND⟩ rfl lk_fsN (by decide) (by decide) d_LT_init_42 (fun a2 H h => ?_)
  refine lv_dup hx hb d_LT_init_45 rfl ?_
  refine lv_iconst (v := (-1)) hx hb d_LT_init_46 (by decide) ?_
  refine in_ctor (av := [.int (-1)]) X rfl h hA (c_ND_init l D τ _ a2 (-1)) ⟨gc_ND_init, gm_LT_15, gn_ND, gi_ND_init⟩ rfl gd_ND_init ⟨by decide, by decide⟩ rfl hl.1 (Nat.le_of_ble_eq_true rfl) d_LT_init_47 (by decide) (by decide) (fun u H locs h => ?_)
  obtain ⟨u1, u2⟩ := u
  have h : lk_H D lk_cl A s.heap ((((a, .inr (0, [.ref a1, .null, .null, .null, .int 0])) :: (a1, lk_qa (τ 2) 24 n 24) :: lk_nl τ n k z 24) ++ [(a2, .inr (1, lk_nd1 (-1) u1 u2))]) ++ [(u1, lk_ar τ 5), (u2, lk_ar τ 5)]) _ _ := h
  refine in_putF (v := .ref a2) (ws2 := (((a, .inr (0, [.ref a1, .ref a2, .null, .null, .int 0])) :: (a1, lk_qa (τ 2) 24 n 24) :: lk_nl τ n k z 24) ++ [(a2, .inr (1, lk_nd1 (-1) u1 u2))]) ++ [(u1, lk_ar τ 5), (u2, lk_ar τ 5)]) X hin rfl h 0 rfl rfl gl_LT ty_LT_ok nm_LT 1 (by decide) (.object "LinkTree$Node") gf_LT_18 ⟨rfl, rfl, by decide +kernel⟩ ⟨rfl, rfl⟩ (Nat.le_of_ble_eq_true rfl) rfl d_LT_init_50 (fun H locs h => ?_)
  refine lv_aload_n hx hb d_LT_init_53 rfl (lv_at hl 1 rfl) ?_
  refine in_get X rfl h 0 rfl rfl gl_LT 1 (by decide) gf_LT_18 rfl rfl d_LT_init_54 ?_
  refine lv_iconst (v := 2) hx hb d_LT_init_57 (by decide) ?_
  refine in_put (v := .int 2) (C := R_ND) (own := R_LT) X rfl h _ lk_getm rfl gl_ND ty_ND_ok nm_ND 4 (by decide) .int gf_LT_22 ⟨rfl, rfl, by decide +kernel⟩ ⟨rfl, rfl⟩ (Nat.le_of_ble_eq_true rfl) lk_setm d_LT_init_58 (fun H locs h => ?_)
  refine lv_aload_n hx hb d_LT_init_61 rfl (lv_at hl 1 rfl) ?_
  refine lv_iconst (v := nI 4) hx hb d_LT_init_62 (by decide) ?_
  refine in_newQ (t0 := 3) (C := R_TA) X rfl h hA gk_LT_26 hO2 rfl (by decide) (by decide) (by decide) d_LT_init_63 (fun a3 H h => ?_)
  obtain ⟨P, hPe⟩ : ∃ P : va_W, P = (a1, lk_qa (τ 2) 24 n 24) :: ((lk_nl τ n k z 24 ++ [(a2, .inr (1, (lk_nd1 (-1) u1 u2).set 4 (.int 2)))]) ++ [(u1, lk_ar τ 5), (u2, lk_ar τ 5)]) := ⟨_, rfl⟩
  have h : lk_H D lk_cl A s.heap (((a, .inr (0, [.ref a1, .ref a2, .null, .null, .int 0])) :: P) ++ [(a3, .inl (τ 3, 4, .inr (.inr (.inr (.inr (fun _ => none))))))]) H locs := by rw [hPe]; exact h
  refine in_putF (v := .ref a3) (ws2 := ((a, .inr (0, [.ref a1, .ref a2, .ref a3, .null, .int 0])) :: P) ++ [(a3, .inl (τ 3, 4, .inr (.inr (.inr (.inr (fun _ => none))))))]) X hin rfl h 0 rfl rfl gl_LT ty_LT_ok nm_LT 2 (by decide) (.array (.object "LinkTree$Task")) gf_LT_28 ⟨rfl, rfl, by decide +kernel⟩ ⟨rfl, rfl⟩ (Nat.le_of_ble_eq_true rfl) rfl d_LT_init_66 (fun H locs h => ?_)
  refine lv_iconst (v := nI 0) hx hb d_LT_init_69 (by decide) ?_
  refine lv_istore_n hx hb d_LT_init_70 rfl hl (by decide) rfl (fun ls hl => ?_)
  have hl : lv_has ls 2 [(1, .int (nI 0)), (0, .ref a)] := hl
  refine W.widen (k := 77 + 2 * 0) (n := 553 + 41 * 0) (by decide) (by decide) ?_
  refine w_LT_i2 (a := a) (a1 := a1) (a2 := a2) (a3 := a3) (P := P) X hA ⟨by decide, by decide, by decide, by decide⟩ 4 0 (by omega) (fun _ => 0) (fun _ => 0) H locs ls ?_ hl (fun t w H locs ls h hl => ?_)
  · have e : (fun _ : Nat => (none : Option Nat)) = fun j => if j < 0 then some ((fun _ => 0 : Nat → Nat) j) else none := by funext j; rw [if_neg (by omega)]
    rw [e] at h
    show lk_H D lk_cl A s.heap (_ ++ []) H locs
    rw [List.append_nil]
    exact h
  refine lv_aload_n hx hb d_LT_init_96 rfl (lv_at hl 1 rfl) ?_
  refine in_newO (ci := 3) X rfl h hA gl_SP ty_SP_ok ⟨gk_LT_33, ga_SP, gn_SP⟩ rfl lk_fsS (by decide) (by decide) d_LT_init_97 (fun a4 H h => ?_)
  refine lv_dup hx hb d_LT_init_100 rfl ?_
  refine in_ctorN (av := []) (host := R_LT) X rfl h hA (c_SP_init l D τ _ a4) hNl ⟨gc_SP_init, gn_SP, gi_SP_init⟩ rfl gd_SP_init ⟨by decide, by decide⟩ rfl hl.1 (Nat.le_of_ble_eq_true rfl) d_LT_init_101 (by decide) (by decide) (fun u H locs h => ?_)
  obtain ⟨a5, u6⟩ := u
  have h : lk_H D lk_cl A s.heap (((((((a, .inr (0, [.ref a1, .ref a2, .ref a3, .null, .int 0])) :: P) ++ [(a3, lk_qa (τ 3) 4 t 4)]) ++ lk_tl τ t w 4) ++ [(a4, .inr (3, [.ref a5, .int 0]))]) ++ [(a5, lk_ar τ 12)])) _ _ := h
  refine in_putF (v := .ref a4) (ws2 := (((((a, .inr (0, [.ref a1, .ref a2, .ref a3, .ref a4, .int 0])) :: P) ++ [(a3, lk_qa (τ 3) 4 t 4)]) ++ lk_tl τ t w 4) ++ [(a4, .inr (3, [.ref a5, .int 0]))]) ++ [(a5, lk_ar τ 12)]) X hin rfl h 0 rfl rfl gl_LT ty_LT_ok nm_LT 3 (by decide) (.object "LinkTree$SmallPages") gf_LT_36 ⟨rfl, rfl, by decide +kernel⟩ ⟨rfl, rfl⟩ (Nat.le_of_ble_eq_true rfl) rfl d_LT_init_104 (fun H locs h => ?_)
  refine lv_aload_n hx hb d_LT_init_107 rfl (lv_at hl 1 rfl) ?_
  refine lv_iconst (v := 0) hx hb d_LT_init_108 (by decide) ?_
  refine in_put (v := .int 0) (C := R_LT) (own := R_LT) (ws2 := (((((a, .inr (0, [.ref a1, .ref a2, .ref a3, .ref a4, .int 0])) :: P) ++ [(a3, lk_qa (τ 3) 4 t 4)]) ++ lk_tl τ t w 4) ++ [(a4, .inr (3, [.ref a5, .int 0]))]) ++ [(a5, lk_ar τ 12)]) X rfl h 0 rfl rfl gl_LT ty_LT_ok nm_LT 4 (by decide) .int gf_LT_40 ⟨rfl, rfl, by decide +kernel⟩ ⟨rfl, rfl⟩ (Nat.le_of_ble_eq_true rfl) rfl d_LT_init_109 (fun H locs h => ?_)
  have ew : (((((a, .inr (0, [.ref a1, .ref a2, .ref a3, .ref a4, .int 0])) :: P) ++ [(a3, lk_qa (τ 3) 4 t 4)]) ++ lk_tl τ t w 4) ++ [(a4, .inr (3, [.ref a5, .int 0]))]) ++ [(a5, lk_ar τ 12)] = ((a, lk_lt (.ref a1) (.ref a2) (.ref a3) (.ref a4)) :: (a1, lk_qa (τ 2) 24 n 24) :: (lk_nl τ n k z 24 ++ ([(a2, .inr (1, (lk_nd1 (-1) u1 u2).set 4 (.int 2))), (u1, lk_ar τ 5), (u2, lk_ar τ 5), (a3, lk_qa (τ 3) 4 t 4)] ++ (lk_tl τ t w 4 ++ [(a4, .inr (3, [.ref a5, .int 0])), (a5, lk_ar τ 12)]))) : va_W) := by
    rw [hPe]
    simp only [List.append_assoc, List.cons_append, List.nil_append]
    rfl
  rw [ew] at h
  obtain ⟨ad, ea, h⟩ := lk_fin h
  have hl : lv_has ls 2 [(1, .int (nI 4)), (0, .ref (ad 0))] := by rw [ea]; exact hl
  refine lv_aload_n hx hb d_LT_init_112 rfl (lv_at hl 1 rfl) ?_
  refine ct_get X h (q0 := 0) (by omega) rfl rfl gl_LT 0 (by decide) rfl gf_LT_11 rfl d_LT_init_113 ?_
  refine lv_iconst (v := nI 0) hx hb d_LT_init_116 (by decide) ?_
  refine lt_ndq X h (j := 0) (by omega) d_LT_init_117 ?_
  refine lv_iconst (v := 0) hx hb d_LT_init_118 (by decide) ?_
  refine lv_iconst (v := (-1)) hx hb d_LT_init_119 (by decide) ?_
  refine lv_sipush (v := 999) hx hb d_LT_init_120 (by decide) ?_
  refine lv_iconst (v := (-1)) hx hb d_LT_init_123 (by decide) ?_
  refine lk_gov (lk_runV (As := [.int 0, .int (-1), .int 999, .int (-1)]) (C := R_ND) X h (c_ND_become l D τ ad _ 0 (by omega) _ _ _ _) ⟨gc_ND_become, gm_LT_43, gn_ND, gd_ND_become, by decide, by decide⟩ gi_ND_become gs_ND_become ⟨5 + 0, 1, _, _, _, by rw [lk_w_get (by omega), lk_ce_n (by omega)], rfl⟩ rfl hl.1 (Nat.le_of_ble_eq_true rfl) d_LT_init_124 ⟨by decide, by decide⟩) h hA (fun σ124 H locs hk9 h => ?_)
  rw [hk9] at h
  exact W.widen (by decide) (by decide) (W.vret hx hb X.2.2.2.1 (fun t ht hW => ⟨⟨ad, rfl, ea, ⟨by rw [ht]; exact h.P, va_K.moved hW.alike hK⟩, h.D⟩, h.S.F ht⟩) h.S.2.2 d_LT_init_127 B.notSynchronized)
