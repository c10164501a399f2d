def lk_mo0 : List Value := [.int 0, .null, .null, .null, .null, .null, .null, .null, .null, .null, .null, .int 0, .int 0, .null, .null, .null, .null, .null, .null, .null, .null, .null, .null, .null, .null, .null, .null]
def mm_Z : lk_M := fun _ _ => 0
def mm_I (k : Nat) : lk_M := va_up (lk_st (lk_st (lk_st (lk_st mm_Z 0 0 1) 2 0 (-1)) 3 0 999) 4 0 (-1)) 6 (fun i => if i < k then -1 else 0)
theorem mm_I_0 : mm_I 0 = lk_st (lk_st (lk_st (lk_st mm_Z 0 0 1) 2 0 (-1)) 3 0 999) 4 0 (-1) := by
  funext f i
  unfold mm_I
  rw [lk_up_eq]
  by_cases h : f = 6
  · subst h
    rw [if_pos rfl, if_neg (by omega)]
    simp [lk_st_eq, mm_Z]
  · rw [if_neg h]
theorem mm_I_s (k : Nat) : lk_st (mm_I k) 6 k (-1) = mm_I (k + 1) := by
  funext f i
  rw [lk_st_eq]
  unfold mm_I
  rw [lk_up_eq, lk_up_eq]
  by_cases h : f = 6
  · subst h
    rw [if_pos rfl, if_pos rfl]
    by_cases h2 : i = k
    · rw [if_pos ⟨rfl, h2⟩, if_pos (by omega)]
    · rw [if_neg (fun z => h2 z.2)]
      by_cases h3 : i < k
      · rw [if_pos h3, if_pos (by omega)]
      · rw [if_neg h3, if_neg (by omega)]
  · rw [if_neg (fun z => h z.1), if_neg h, if_neg h]
def lk_CM (l : Launch) (D : va_G) (τ : Nat → ClassId) (a : Nat) : Prop :=
  ∀ sz : Nat, Met l y_MO_init (.code y_MO_init b_MO_init 2 none :: lk_G) ({ frames := 1, cells := 24, slots := 1000, locals := 20 }) (va_Pc [.ref a] (lk_Pre D τ [(a, .inr (4, lk_mo0))] sz)) (va_Qv (fun u : Nat → Nat => u 0 = a) (fun u t => lk_Bh D τ 25 u (lk_me τ u) (mm_I 24) t ∧ va_D (va_A [(a, .inr (4, lk_mo0))] sz) (lk_w 25 u (lk_me τ u (mm_I 24)))) (va_A [(a, .inr (4, lk_mo0))] sz)) 24 1000 (va_A [(a, .inr (4, lk_mo0))] sz)
section
variable {pg : Program} {l : Launch} {en : Env} {R : Room} {s : State} {m : MethodId} {args : Array Value} {below : List Frame} {meth : Method} {cd : Code} {H : Heap} {locs : List Loc} {cells slots : Nat} {Q : State → Prop} {D : va_G} {τ : Nat → ClassId} {ad : Nat → Nat} {A : Nat → Prop} {H0 : Heap} {M : lk_M}
theorem w_MO_init (X : lk_X pg s m args meth cd y_MO_init b_MO_init 2 (none) D τ) : ∀ (r k : Nat), k + r = 24 → ∀ (H : Heap) (locs : List Loc) (ls : Array Slot), lk_H D lk_cl A H0 (lk_w 25 ad (lk_me τ ad (mm_I k))) H locs → lv_has ls 2 [(1, .int (nI k)), (0, .ref (ad 0))] → (∀ (H : Heap) (locs : List Loc) (ls : Array Slot), lk_H D lk_cl A H0 (lk_w 25 ad (lk_me τ ad (mm_I 24))) H locs → W pg l en R s m args below meth cd H locs cells slots Q (F0 m 238 ls [])) → W pg l en R s m args below meth cd H locs cells slots Q (F0 m 219 ls []) := by
  obtain ⟨hx, hb, -⟩ := id X
  intro r
  induction r with
  | zero =>
    intro k hk H locs ls h hl kk
    have hk : k = 24 := by omega
    subst hk
    refine lv_iload_n hx hb d_MO_init_219 rfl (lv_at hl 0 rfl) ?_
    refine lv_bipush (v := nI 24) hx hb d_MO_init_220 (by decide) ?_
    refine lk_cN_ge (tgt := 238) hx hb (by omega) (by omega) d_MO_init_222 (by decide) (fun h1 => ?_) (fun h1 => ?_)
    · exact kk H locs ls h
    · omega
  | succ r ih =>
    intro k hk H locs ls h hl kk
    refine lv_iload_n hx hb d_MO_init_219 rfl (lv_at hl 0 rfl) ?_
    refine lv_bipush (v := nI 24) hx hb d_MO_init_220 (by decide) ?_
    refine lk_cN_ge (tgt := 238) hx hb (by omega) (by omega) d_MO_init_222 (by decide) (fun h1 => ?_) (fun h1 => ?_)
    · omega
    · refine lv_aload_n hx hb d_MO_init_225 rfl (lv_at hl 1 rfl) ?_
      refine mo_get X rfl h 7 (by decide) rfl gf_MO_28 rfl d_MO_init_226 ?_
      refine lv_iload_n hx hb d_MO_init_229 rfl (lv_at hl 0 rfl) ?_
      refine lv_iconst (v := (-1)) hx hb d_MO_init_230 (by decide) ?_
      refine mo_ast X h 6 24 rfl (by decide) (j := k) (v := (-1)) (by omega) (by decide) d_MO_init_231 (fun H locs h => ?_)
      refine lv_iinc (k := 0) (v := nI (k + 1)) hx hb d_MO_init_232 hl rfl (nI_1 _) (by decide) rfl (fun ls hl => ?_)
      have hl : lv_has ls 2 [(1, .int (nI (k + 1))), (0, .ref (ad 0))] := hl
      refine lv_goto (tgt := 219) hx hb d_MO_init_235 (by decide) ?_
      rw [mm_I_s] at h
      exact ih (k + 1) (by omega) H locs ls h hl kk
end
set_option maxRecDepth 20000 in
theorem c_MO_init (l : Launch) (D : va_G) (τ : Nat → ClassId) (a : Nat) : lk_CM l D τ a := by
  intro sz
  refine Met.ofW (cc := b_MO_init) (maxL := 2) (ret := none) (by decide +kernel) rfl ?_
  intro pg en s m args below meth cd s₁ B hml hv
  obtain ⟨rfl, hsz, hP, hK, hD0⟩ := hv
  have hts := atoms_spec (ws := .code y_MO_init b_MO_init 2 none :: lk_G) B.pre
  subst hsz
  have hD := hD0.self (sz := s.heap.size)
  have hl := lv_entry [.ref a] (n := 2) (Nat.le_of_ble_eq_true rfl)
  rw [lg_entry_eq]
  have X : lk_X pg s m _ meth cd y_MO_init b_MO_init 2 none D τ := ⟨B.exec, B.bytes, hml, B.returns, fun w hw => hts w (List.mem_cons_of_mem _ hw), findClass_of_methodNamed B.named, B.notSynchronized, hK⟩
  have hin : meth.name = "<init>" := (name_of_methodNamed B.named B.method).1
  generalize hAe : va_A [(a, .inr (4, lk_mo0))] s.heap.size = A at hD ⊢
  have hA : ∀ q : Nat, s.heap.size ≤ q → A q := fun q h => by rw [← hAe]; exact Or.inr h
  have h : lk_H D lk_cl A s.heap [(a, .inr (4, lk_mo0))] s.heap [] := ⟨hP, hD, va_S.rf⟩
  generalize (lg_sl [.ref a] ++ List.replicate (2 - (lg_sl [.ref a]).length) Slot.unset).toArray = ls at hl ⊢
  have hl : lv_has ls 2 [(0, .ref a)] := hl
  obtain ⟨hx, hb, -⟩ := id X
  refine lv_aload_n hx hb d_MO_init_0 rfl (lv_at hl 0 rfl) ?_
  refine in_obj X rfl gm_MO_1 hl.1 (by decide) (by decide) d_MO_init_1 ?_
  refine lv_aload_n hx hb d_MO_init_4 rfl (lv_at hl 0 rfl) ?_
  refine lv_bipush (v := nI 24) hx hb d_MO_init_5 (by decide) ?_
  refine in_newI X h hA (by decide) (by decide) (by decide) d_MO_init_7 (fun q7 H h => ?_)
  have h : lk_H D lk_cl A s.heap ((a, .inr (4, [.int 0, .null, .null, .null, .null, .null, .null, .null, .null, .null, .null, .int 0, .int 0, .null, .null, .null, .null, .null, .null, .null, .null, .null, .null, .null, .null, .null, .null])) :: [(q7, lk_ar τ 24)]) _ _ := h
  refine W.widen (k := 1) (n := 24) (by decide) (by decide) ?_
  refine in_putF (v := .ref q7) X hin rfl h 0 rfl rfl gl_MO ty_MO_ok nm_MO 1 (by decide) (.array .int) gf_MO_7 ⟨rfl, rfl, by decide +kernel⟩ ⟨rfl, rfl⟩ (Nat.le_of_ble_eq_true rfl) rfl d_MO_init_9 (fun H locs h => ?_)
  have h : lk_H D lk_cl A s.heap ((a, .inr (4, [.int 0, .ref q7, .null, .null, .null, .null, .null, .null, .null, .null, .null, .int 0, .int 0, .null, .null, .null, .null, .null, .null, .null, .null, .null, .null, .null, .null, .null, .null])) :: [(q7, lk_ar τ 24)]) _ _ := h
  refine lv_aload_n hx hb d_MO_init_12 rfl (lv_at hl 0 rfl) ?_
  refine lv_bipush (v := nI 24) hx hb d_MO_init_13 (by decide) ?_
  refine in_newI X h hA (by decide) (by decide) (by decide) d_MO_init_15 (fun q15 H h => ?_)
  have h : lk_H D lk_cl A s.heap ((a, .inr (4, [.int 0, .ref q7, .null, .null, .null, .null, .null, .null, .null, .null, .null, .int 0, .int 0, .null, .null, .null, .null, .null, .null, .null, .null, .null, .null, .null, .null, .null, .null])) :: [(q7, lk_ar τ 24), (q15, lk_ar τ 24)]) _ _ := h
  refine W.widen (k := 2) (n := 48) (by decide) (by decide) ?_
  refine in_putF (v := .ref q15) X hin rfl h 0 rfl rfl gl_MO ty_MO_ok nm_MO 2 (by decide) (.array .int) gf_MO_13 ⟨rfl, rfl, by decide +kernel⟩ ⟨rfl, rfl⟩ (Nat.le_of_ble_eq_true rfl) rfl d_MO_init_17 (fun H locs h => ?_)
  have h : lk_H D lk_cl A s.heap ((a, .inr (4, [.int 0, .ref q7, .ref q15, .null, .null, .null, .null, .null, .null, .null, .null, .int 0, .int 0, .null, .null, .null, .null, .null, .null, .null, .null, .null, .null, .null, .null, .null, .null])) :: [(q7, lk_ar τ 24), (q15, lk_ar τ 24)]) _ _ := h
  refine lv_aload_n hx hb d_MO_init_20 rfl (lv_at hl 0 rfl) ?_
  refine lv_bipush (v := nI 24) hx hb d_MO_init_21 (by decide) ?_
  refine in_newI X h hA (by decide) (by decide) (by decide) d_MO_init_23 (fun q23 H h => ?_)
  have h : lk_H D lk_cl A s.heap ((a, .inr (4, [.int 0, .ref q7, .ref q15, .null, .null, .null, .null, .null, .null, .null, .null, .int 0, .int 0, .null, .null, .null, .null, .null, .null, .null, .null, .null, .null, .null, .null, .null, .null])) :: [(q7, lk_ar τ 24), (q15, lk_ar τ 24), (q23, lk_ar τ 24)]) _ _ := h
  refine W.widen (k := 3) (n := 72) (by decide) (by decide) ?_
  refine in_putF (v := .ref q23) X hin rfl h 0 rfl rfl gl_MO ty_MO_ok nm_MO 3 (by decide) (.array .int) gf_MO_16 ⟨rfl, rfl, by decide +kernel⟩ ⟨rfl, rfl⟩ (Nat.le_of_ble_eq_true rfl) rfl d_MO_init_25 (fun H locs h => ?_)
  have h : lk_H D lk_cl A s.heap ((a, .inr (4, [.int 0, .ref q7, .ref q15, .ref q23, .null, .null, .null, .null, .null, .null, .null, .int 0, .int 0, .null, .null, .null, .null, .null, .null, .null, .null, .null, .null, .null, .null, .null, .null])) :: [(q7, lk_ar τ 24), (q15, lk_ar τ 24), (q23, lk_ar τ 24)]) _ _ := h
  refine lv_aload_n hx hb d_MO_init_28 rfl (lv_at hl 0 rfl) ?_
  refine lv_bipush (v := nI 24) hx hb d_MO_init_29 (by decide) ?_
  refine in_newI X h hA (by decide) (by decide) (by decide) d_MO_init_31 (fun q31 H h => ?_)
  have h : lk_H D lk_cl A s.heap ((a, .inr (4, [.int 0, .ref q7, .ref q15, .ref q23, .null, .null, .null, .null, .null, .null, .null, .int 0, .int 0, .null, .null, .null, .null, .null, .null, .null, .null, .null, .null, .null, .null, .null, .null])) :: [(q7, lk_ar τ 24), (q15, lk_ar τ 24), (q23, lk_ar τ 24), (q31, lk_ar τ 24)]) _ _ := h
  refine W.widen (k := 4) (n := 96) (by decide) (by decide) ?_
  refine in_putF (v := .ref q31) X hin rfl h 0 rfl rfl gl_MO ty_MO_ok nm_MO 4 (by decide) (.array .int) gf_MO_19 ⟨rfl, rfl, by decide +kernel⟩ ⟨rfl, rfl⟩ (Nat.le_of_ble_eq_true rfl) rfl d_MO_init_33 (fun H locs h => ?_)
  have h : lk_H D lk_cl A s.heap ((a, .inr (4, [.int 0, .ref q7, .ref q15, .ref q23, .ref q31, .null, .null, .null, .null, .null, .null, .int 0, .int 0, .null, .null, .null, .null, .null, .null, .null, .null, .null, .null, .null, .null, .null, .null])) :: [(q7, lk_ar τ 24), (q15, lk_ar τ 24), (q23, lk_ar τ 24), (q31, lk_ar τ 24)]) _ _ := h
  refine lv_aload_n hx hb d_MO_init_36 rfl (lv_at hl 0 rfl) ?_
  refine lv_bipush (v := nI 24) hx hb d_MO_init_37 (by decide) ?_
  refine in_newI X h hA (by decide) (by decide) (by decide) d_MO_init_39 (fun q39 H h => ?_)
  have h : lk_H D lk_cl A s.heap ((a, .inr (4, [.int 0, .ref q7, .ref q15, .ref q23, .ref q31, .null, .null, .null, .null, .null, .null, .int 0, .int 0, .null, .null, .null, .null, .null, .null, .null, .null, .null, .null, .null, .null, .null, .null])) :: [(q7, lk_ar τ 24), (q15, lk_ar τ 24), (q23, lk_ar τ 24), (q31, lk_ar τ 24), (q39, lk_ar τ 24)]) _ _ := h
  refine W.widen (k := 5) (n := 120) (by decide) (by decide) ?_
  refine in_putF (v := .ref q39) X hin rfl h 0 rfl rfl gl_MO ty_MO_ok nm_MO 5 (by decide) (.array .int) gf_MO_22 ⟨rfl, rfl, by decide +kernel⟩ ⟨rfl, rfl⟩ (Nat.le_of_ble_eq_true rfl) rfl d_MO_init_41 (fun H locs h => ?_)
  have h : lk_H D lk_cl A s.heap ((a, .inr (4, [.int 0, .ref q7, .ref q15, .ref q23, .ref q31, .ref q39, .null, .null, .null, .null, .null, .int 0, .int 0, .null, .null, .null, .null, .null, .null, .null, .null, .null, .null, .null, .null, .null, .null])) :: [(q7, lk_ar τ 24), (q15, lk_ar τ 24), (q23, lk_ar τ 24), (q31, lk_ar τ 24), (q39, lk_ar τ 24)]) _ _ := h
  refine lv_aload_n hx hb d_MO_init_44 rfl (lv_at hl 0 rfl) ?_
  refine lv_bipush (v := nI 24) hx hb d_MO_init_45 (by decide) ?_
  refine in_newI X h hA (by decide) (by decide) (by decide) d_MO_init_47 (fun q47 H h => ?_)
  have h : lk_H D lk_cl A s.heap ((a, .inr (4, [.int 0, .ref q7, .ref q15, .ref q23, .ref q31, .ref q39, .null, .null, .null, .null, .null, .int 0, .int 0, .null, .null, .null, .null, .null, .null, .null, .null, .null, .null, .null, .null, .null, .null])) :: [(q7, lk_ar τ 24), (q15, lk_ar τ 24), (q23, lk_ar τ 24), (q31, lk_ar τ 24), (q39, lk_ar τ 24), (q47, lk_ar τ 24)]) _ _ := h
  refine W.widen (k := 6) (n := 144) (by decide) (by decide) ?_
  refine in_putF (v := .ref q47) X hin rfl h 0 rfl rfl gl_MO ty_MO_ok nm_MO 6 (by decide) (.array .int) gf_MO_25 ⟨rfl, rfl, by decide +kernel⟩ ⟨rfl, rfl⟩ (Nat.le_of_ble_eq_true rfl) rfl d_MO_init_49 (fun H locs h => ?_)
  have h : lk_H D lk_cl A s.heap ((a, .inr (4, [.int 0, .ref q7, .ref q15, .ref q23, .ref q31, .ref q39, .ref q47, .null, .null, .null, .null, .int 0, .int 0, .null, .null, .null, .null, .null, .null, .null, .null, .null, .null, .null, .null, .null, .null])) :: [(q7, lk_ar τ 24), (q15, lk_ar τ 24), (q23, lk_ar τ 24), (q31, lk_ar τ 24), (q39, lk_ar τ 24), (q47, lk_ar τ 24)]) _ _ := h
  refine lv_aload_n hx hb d_MO_init_52 rfl (lv_at hl 0 rfl) ?_
  refine lv_bipush (v := nI 24) hx hb d_MO_init_53 (by decide) ?_
  refine in_newI X h hA (by decide) (by decide) (by decide) d_MO_init_55 (fun q55 H h => ?_)
  have h : lk_H D lk_cl A s.heap ((a, .inr (4, [.int 0, .ref q7, .ref q15, .ref q23, .ref q31, .ref q39, .ref q47, .null, .null, .null, .null, .int 0, .int 0, .null, .null, .null, .null, .null, .null, .null, .null, .null, .null, .null, .null, .null, .null])) :: [(q7, lk_ar τ 24), (q15, lk_ar τ 24), (q23, lk_ar τ 24), (q31, lk_ar τ 24), (q39, lk_ar τ 24), (q47, lk_ar τ 24), (q55, lk_ar τ 24)]) _ _ := h
  refine W.widen (k := 7) (n := 168) (by decide) (by decide) ?_
  refine in_putF (v := .ref q55) X hin rfl h 0 rfl rfl gl_MO ty_MO_ok nm_MO 7 (by decide) (.array .int) gf_MO_28 ⟨rfl, rfl, by decide +kernel⟩ ⟨rfl, rfl⟩ (Nat.le_of_ble_eq_true rfl) rfl d_MO_init_57 (fun H locs h => ?_)
  have h : lk_H D lk_cl A s.heap ((a, .inr (4, [.int 0, .ref q7, .ref q15, .ref q23, .ref q31, .ref q39, .ref q47, .ref q55, .null, .null, .null, .int 0, .int 0, .null, .null, .null, .null, .null, .null, .null, .null, .null, .null, .null, .null, .null, .null])) :: [(q7, lk_ar τ 24), (q15, lk_ar τ 24), (q23, lk_ar τ 24), (q31, lk_ar τ 24), (q39, lk_ar τ 24), (q47, lk_ar τ 24), (q55, lk_ar τ 24)]) _ _ := h
  refine lv_aload_n hx hb d_MO_init_60 rfl (lv_at hl 0 rfl) ?_
  refine lv_bipush (v := nI 120) hx hb d_MO_init_61 (by decide) ?_
  refine in_newI X h hA (by decide) (by decide) (by decide) d_MO_init_63 (fun q63 H h => ?_)
  have h : lk_H D lk_cl A s.heap ((a, .inr (4, [.int 0, .ref q7, .ref q15, .ref q23, .ref q31, .ref q39, .ref q47, .ref q55, .null, .null, .null, .int 0, .int 0, .null, .null, .null, .null, .null, .null, .null, .null, .null, .null, .null, .null, .null, .null])) :: [(q7, lk_ar τ 24), (q15, lk_ar τ 24), (q23, lk_ar τ 24), (q31, lk_ar τ 24), (q39, lk_ar τ 24), (q47, lk_ar τ 24), (q55, lk_ar τ 24), (q63, lk_ar τ 120)]) _ _ := h
  refine W.widen (k := 8) (n := 288) (by decide) (by decide) ?_
  refine in_putF (v := .ref q63) X hin rfl h 0 rfl rfl gl_MO ty_MO_ok nm_MO 8 (by decide) (.array .int) gf_MO_31 ⟨rfl, rfl, by decide +kernel⟩ ⟨rfl, rfl⟩ (Nat.le_of_ble_eq_true rfl) rfl d_MO_init_65 (fun H locs h => ?_)
  have h : lk_H D lk_cl A s.heap ((a, .inr (4, [.int 0, .ref q7, .ref q15, .ref q23, .ref q31, .ref q39, .ref q47, .ref q55, .ref q63, .null, .null, .int 0, .int 0, .null, .null, .null, .null, .null, .null, .null, .null, .null, .null, .null, .null, .null, .null])) :: [(q7, lk_ar τ 24), (q15, lk_ar τ 24), (q23, lk_ar τ 24), (q31, lk_ar τ 24), (q39, lk_ar τ 24), (q47, lk_ar τ 24), (q55, lk_ar τ 24), (q63, lk_ar τ 120)]) _ _ := h
  refine lv_aload_n hx hb d_MO_init_68 rfl (lv_at hl 0 rfl) ?_
  refine lv_bipush (v := nI 120) hx hb d_MO_init_69 (by decide) ?_
  refine in_newI X h hA (by decide) (by decide) (by decide) d_MO_init_71 (fun q71 H h => ?_)
  have h : lk_H D lk_cl A s.heap ((a, .inr (4, [.int 0, .ref q7, .ref q15, .ref q23, .ref q31, .ref q39, .ref q47, .ref q55, .ref q63, .null, .null, .int 0, .int 0, .null, .null, .null, .null, .null, .null, .null, .null, .null, .null, .null, .null, .null, .null])) :: [(q7, lk_ar τ 24), (q15, lk_ar τ 24), (q23, lk_ar τ 24), (q31, lk_ar τ 24), (q39, lk_ar τ 24), (q47, lk_ar τ 24), (q55, lk_ar τ 24), (q63, lk_ar τ 120), (q71, lk_ar τ 120)]) _ _ := h
  refine W.widen (k := 9) (n := 408) (by decide) (by decide) ?_
  refine in_putF (v := .ref q71) X hin rfl h 0 rfl rfl gl_MO ty_MO_ok nm_MO 9 (by decide) (.array .int) gf_MO_34 ⟨rfl, rfl, by decide +kernel⟩ ⟨rfl, rfl⟩ (Nat.le_of_ble_eq_true rfl) rfl d_MO_init_73 (fun H locs h => ?_)
  have h : lk_H D lk_cl A s.heap ((a, .inr (4, [.int 0, .ref q7, .ref q15, .ref q23, .ref q31, .ref q39, .ref q47, .ref q55, .ref q63, .ref q71, .null, .int 0, .int 0, .null, .null, .null, .null, .null, .null, .null, .null, .null, .null, .null, .null, .null, .null])) :: [(q7, lk_ar τ 24), (q15, lk_ar τ 24), (q23, lk_ar τ 24), (q31, lk_ar τ 24), (q39, lk_ar τ 24), (q47, lk_ar τ 24), (q55, lk_ar τ 24), (q63, lk_ar τ 120), (q71, lk_ar τ 120)]) _ _ := h
  refine lv_aload_n hx hb d_MO_init_76 rfl (lv_at hl 0 rfl) ?_
  refine lv_bipush (v := nI 24) hx hb d_MO_init_77 (by decide) ?_
  refine in_newI X h hA (by decide) (by decide) (by decide) d_MO_init_79 (fun q79 H h => ?_)
  have h : lk_H D lk_cl A s.heap ((a, .inr (4, [.int 0, .ref q7, .ref q15, .ref q23, .ref q31, .ref q39, .ref q47, .ref q55, .ref q63, .ref q71, .null, .int 0, .int 0, .null, .null, .null, .null, .null, .null, .null, .null, .null, .null, .null, .null, .null, .null])) :: [(q7, lk_ar τ 24), (q15, lk_ar τ 24), (q23, lk_ar τ 24), (q31, lk_ar τ 24), (q39, lk_ar τ 24), (q47, lk_ar τ 24), (q55, lk_ar τ 24), (q63, lk_ar τ 120), (q71, lk_ar τ 120), (q79, lk_ar τ 24)]) _ _ := h
  refine W.widen (k := 10) (n := 432) (by decide) (by decide) ?_
  refine in_putF (v := .ref q79) X hin rfl h 0 rfl rfl gl_MO ty_MO_ok nm_MO 10 (by decide) (.array .int) gf_MO_37 ⟨rfl, rfl, by decide +kernel⟩ ⟨rfl, rfl⟩ (Nat.le_of_ble_eq_true rfl) rfl d_MO_init_81 (fun H locs h => ?_)
  have h : lk_H D lk_cl A s.heap ((a, .inr (4, [.int 0, .ref q7, .ref q15, .ref q23, .ref q31, .ref q39, .ref q47, .ref q55, .ref q63, .ref q71, .ref q79, .int 0, .int 0, .null, .null, .null, .null, .null, .null, .null, .null, .null, .null, .null, .null, .null, .null])) :: [(q7, lk_ar τ 24), (q15, lk_ar τ 24), (q23, lk_ar τ 24), (q31, lk_ar τ 24), (q39, lk_ar τ 24), (q47, lk_ar τ 24), (q55, lk_ar τ 24), (q63, lk_ar τ 120), (q71, lk_ar τ 120), (q79, lk_ar τ 24)]) _ _ := h
  refine lv_aload_n hx hb d_MO_init_84 rfl (lv_at hl 0 rfl) ?_
  refine lv_bipush (v := nI 12) hx hb d_MO_init_85 (by decide) ?_
  refine in_newI X h hA (by decide) (by decide) (by decide) d_MO_init_87 (fun q87 H h => ?_)
  have h : lk_H D lk_cl A s.heap ((a, .inr (4, [.int 0, .ref q7, .ref q15, .ref q23, .ref q31, .ref q39, .ref q47, .ref q55, .ref q63, .ref q71, .ref q79, .int 0, .int 0, .null, .null, .null, .null, .null, .null, .null, .null, .null, .null, .null, .null, .null, .null])) :: [(q7, lk_ar τ 24), (q15, lk_ar τ 24), (q23, lk_ar τ 24), (q31, lk_ar τ 24), (q39, lk_ar τ 24), (q47, lk_ar τ 24), (q55, lk_ar τ 24), (q63, lk_ar τ 120), (q71, lk_ar τ 120), (q79, lk_ar τ 24), (q87, lk_ar τ 12)]) _ _ := h
  refine W.widen (k := 11) (n := 444) (by decide) (by decide) ?_
  refine in_putF (v := .ref q87) X hin rfl h 0 rfl rfl gl_MO ty_MO_ok nm_MO 13 (by decide) (.array .int) gf_MO_40 ⟨rfl, rfl, by decide +kernel⟩ ⟨rfl, rfl⟩ (Nat.le_of_ble_eq_true rfl) rfl d_MO_init_89 (fun H locs h => ?_)
  have h : lk_H D lk_cl A s.heap ((a, .inr (4, [.int 0, .ref q7, .ref q15, .ref q23, .ref q31, .ref q39, .ref q47, .ref q55, .ref q63, .ref q71, .ref q79, .int 0, .int 0, .ref q87, .null, .null, .null, .null, .null, .null, .null, .null, .null, .null, .null, .null, .null])) :: [(q7, lk_ar τ 24), (q15, lk_ar τ 24), (q23, lk_ar τ 24), (q31, lk_ar τ 24), (q39, lk_ar τ 24), (q47, lk_ar τ 24), (q55, lk_ar τ 24), (q63, lk_ar τ 120), (q71, lk_ar τ 120), (q79, lk_ar τ 24), (q87, lk_ar τ 12)]) _ _ := h
  refine lv_aload_n hx hb d_MO_init_92 rfl (lv_at hl 0 rfl) ?_
  refine lv_iconst (v := nI 4) hx hb d_MO_init_93 (by decide) ?_
  refine in_newZ X h hA (by decide) (by decide) (by decide) d_MO_init_94 (fun q94 H h => ?_)
  have h : lk_H D lk_cl A s.heap ((a, .inr (4, [.int 0, .ref q7, .ref q15, .ref q23, .ref q31, .ref q39, .ref q47, .ref q55, .ref q63, .ref q71, .ref q79, .int 0, .int 0, .ref q87, .null, .null, .null, .null, .null, .null, .null, .null, .null, .null, .null, .null, .null])) :: [(q7, lk_ar τ 24), (q15, lk_ar τ 24), (q23, lk_ar τ 24), (q31, lk_ar τ 24), (q39, lk_ar τ 24), (q47, lk_ar τ 24), (q55, lk_ar τ 24), (q63, lk_ar τ 120), (q71, lk_ar τ 120), (q79, lk_ar τ 24), (q87, lk_ar τ 12), (q94, lk_ab τ 4)]) _ _ := h
  refine W.widen (k := 12) (n := 448) (by decide) (by decide) ?_
  refine in_putF (v := .ref q94) X hin rfl h 0 rfl rfl gl_MO ty_MO_ok nm_MO 14 (by decide) (.array .boolean) gf_MO_43 ⟨rfl, rfl, by decide +kernel⟩ ⟨rfl, rfl⟩ (Nat.le_of_ble_eq_true rfl) rfl d_MO_init_96 (fun H locs h => ?_)
  have h : lk_H D lk_cl A s.heap ((a, .inr (4, [.int 0, .ref q7, .ref q15, .ref q23, .ref q31, .ref q39, .ref q47, .ref q55, .ref q63, .ref q71, .ref q79, .int 0, .int 0, .ref q87, .ref q94, .null, .null, .null, .null, .null, .null, .null, .null, .null, .null, .null, .null])) :: [(q7, lk_ar τ 24), (q15, lk_ar τ 24), (q23, lk_ar τ 24), (q31, lk_ar τ 24), (q39, lk_ar τ 24), (q47, lk_ar τ 24), (q55, lk_ar τ 24), (q63, lk_ar τ 120), (q71, lk_ar τ 120), (q79, lk_ar τ 24), (q87, lk_ar τ 12), (q94, lk_ab τ 4)]) _ _ := h
  refine lv_aload_n hx hb d_MO_init_99 rfl (lv_at hl 0 rfl) ?_
  refine lv_iconst (v := nI 4) hx hb d_MO_init_100 (by decide) ?_
  refine in_newI X h hA (by decide) (by decide) (by decide) d_MO_init_101 (fun q101 H h => ?_)
  have h : lk_H D lk_cl A s.heap ((a, .inr (4, [.int 0, .ref q7, .ref q15, .ref q23, .ref q31, .ref q39, .ref q47, .ref q55, .ref q63, .ref q71, .ref q79, .int 0, .int 0, .ref q87, .ref q94, .null, .null, .null, .null, .null, .null, .null, .null, .null, .null, .null, .null])) :: [(q7, lk_ar τ 24), (q15, lk_ar τ 24), (q23, lk_ar τ 24), (q31, lk_ar τ 24), (q39, lk_ar τ 24), (q47, lk_ar τ 24), (q55, lk_ar τ 24), (q63, lk_ar τ 120), (q71, lk_ar τ 120), (q79, lk_ar τ 24), (q87, lk_ar τ 12), (q94, lk_ab τ 4), (q101, lk_ar τ 4)]) _ _ := h
  refine W.widen (k := 13) (n := 452) (by decide) (by decide) ?_
  refine in_putF (v := .ref q101) X hin rfl h 0 rfl rfl gl_MO ty_MO_ok nm_MO 15 (by decide) (.array .int) gf_MO_47 ⟨rfl, rfl, by decide +kernel⟩ ⟨rfl, rfl⟩ (Nat.le_of_ble_eq_true rfl) rfl d_MO_init_103 (fun H locs h => ?_)
  have h : lk_H D lk_cl A s.heap ((a, .inr (4, [.int 0, .ref q7, .ref q15, .ref q23, .ref q31, .ref q39, .ref q47, .ref q55, .ref q63, .ref q71, .ref q79, .int 0, .int 0, .ref q87, .ref q94, .ref q101, .null, .null, .null, .null, .null, .null, .null, .null, .null, .null, .null])) :: [(q7, lk_ar τ 24), (q15, lk_ar τ 24), (q23, lk_ar τ 24), (q31, lk_ar τ 24), (q39, lk_ar τ 24), (q47, lk_ar τ 24), (q55, lk_ar τ 24), (q63, lk_ar τ 120), (q71, lk_ar τ 120), (q79, lk_ar τ 24), (q87, lk_ar τ 12), (q94, lk_ab τ 4), (q101, lk_ar τ 4)]) _ _ := h
  refine lv_aload_n hx hb d_MO_init_106 rfl (lv_at hl 0 rfl) ?_
  refine lv_iconst (v := nI 4) hx hb d_MO_init_107 (by decide) ?_
  refine in_newI X h hA (by decide) (by decide) (by decide) d_MO_init_108 (fun q108 H h => ?_)
  have h : lk_H D lk_cl A s.heap ((a, .inr (4, [.int 0, .ref q7, .ref q15, .ref q23, .ref q31, .ref q39, .ref q47, .ref q55, .ref q63, .ref q71, .ref q79, .int 0, .int 0, .ref q87, .ref q94, .ref q101, .null, .null, .null, .null, .null, .null, .null, .null, .null, .null, .null])) :: [(q7, lk_ar τ 24), (q15, lk_ar τ 24), (q23, lk_ar τ 24), (q31, lk_ar τ 24), (q39, lk_ar τ 24), (q47, lk_ar τ 24), (q55, lk_ar τ 24), (q63, lk_ar τ 120), (q71, lk_ar τ 120), (q79, lk_ar τ 24), (q87, lk_ar τ 12), (q94, lk_ab τ 4), (q101, lk_ar τ 4), (q108, lk_ar τ 4)]) _ _ := h
  refine W.widen (k := 14) (n := 456) (by decide) (by decide) ?_
  refine in_putF (v := .ref q108) X hin rfl h 0 rfl rfl gl_MO ty_MO_ok nm_MO 16 (by decide) (.array .int) gf_MO_50 ⟨rfl, rfl, by decide +kernel⟩ ⟨rfl, rfl⟩ (Nat.le_of_ble_eq_true rfl) rfl d_MO_init_110 (fun H locs h => ?_)
  have h : lk_H D lk_cl A s.heap ((a, .inr (4, [.int 0, .ref q7, .ref q15, .ref q23, .ref q31, .ref q39, .ref q47, .ref q55, .ref q63, .ref q71, .ref q79, .int 0, .int 0, .ref q87, .ref q94, .ref q101, .ref q108, .null, .null, .null, .null, .null, .null, .null, .null, .null, .null])) :: [(q7, lk_ar τ 24), (q15, lk_ar τ 24), (q23, lk_ar τ 24), (q31, lk_ar τ 24), (q39, lk_ar τ 24), (q47, lk_ar τ 24), (q55, lk_ar τ 24), (q63, lk_ar τ 120), (q71, lk_ar τ 120), (q79, lk_ar τ 24), (q87, lk_ar τ 12), (q94, lk_ab τ 4), (q101, lk_ar τ 4), (q108, lk_ar τ 4)]) _ _ := h
  refine lv_aload_n hx hb d_MO_init_113 rfl (lv_at hl 0 rfl) ?_
  refine lv_iconst (v := nI 4) hx hb d_MO_init_114 (by decide) ?_
  refine in_newI X h hA (by decide) (by decide) (by decide) d_MO_init_115 (fun q115 H h => ?_)
  have h : lk_H D lk_cl A s.heap ((a, .inr (4, [.int 0, .ref q7, .ref q15, .ref q23, .ref q31, .ref q39, .ref q47, .ref q55, .ref q63, .ref q71, .ref q79, .int 0, .int 0, .ref q87, .ref q94, .ref q101, .ref q108, .null, .null, .null, .null, .null, .null, .null, .null, .null, .null])) :: [(q7, lk_ar τ 24), (q15, lk_ar τ 24), (q23, lk_ar τ 24), (q31, lk_ar τ 24), (q39, lk_ar τ 24), (q47, lk_ar τ 24), (q55, lk_ar τ 24), (q63, lk_ar τ 120), (q71, lk_ar τ 120), (q79, lk_ar τ 24), (q87, lk_ar τ 12), (q94, lk_ab τ 4), (q101, lk_ar τ 4), (q108, lk_ar τ 4), (q115, lk_ar τ 4)]) _ _ := h
  refine W.widen (k := 15) (n := 460) (by decide) (by decide) ?_
  refine in_putF (v := .ref q115) X hin rfl h 0 rfl rfl gl_MO ty_MO_ok nm_MO 17 (by decide) (.array .int) gf_MO_53 ⟨rfl, rfl, by decide +kernel⟩ ⟨rfl, rfl⟩ (Nat.le_of_ble_eq_true rfl) rfl d_MO_init_117 (fun H locs h => ?_)
  have h : lk_H D lk_cl A s.heap ((a, .inr (4, [.int 0, .ref q7, .ref q15, .ref q23, .ref q31, .ref q39, .ref q47, .ref q55, .ref q63, .ref q71, .ref q79, .int 0, .int 0, .ref q87, .ref q94, .ref q101, .ref q108, .ref q115, .null, .null, .null, .null, .null, .null, .null, .null, .null])) :: [(q7, lk_ar τ 24), (q15, lk_ar τ 24), (q23, lk_ar τ 24), (q31, lk_ar τ 24), (q39, lk_ar τ 24), (q47, lk_ar τ 24), (q55, lk_ar τ 24), (q63, lk_ar τ 120), (q71, lk_ar τ 120), (q79, lk_ar τ 24), (q87, lk_ar τ 12), (q94, lk_ab τ 4), (q101, lk_ar τ 4), (q108, lk_ar τ 4), (q115, lk_ar τ 4)]) _ _ := h
  refine lv_aload_n hx hb d_MO_init_120 rfl (lv_at hl 0 rfl) ?_
  refine lv_iconst (v := nI 4) hx hb d_MO_init_121 (by decide) ?_
  refine in_newI X h hA (by decide) (by decide) (by decide) d_MO_init_122 (fun q122 H h => ?_)
  have h : lk_H D lk_cl A s.heap ((a, .inr (4, [.int 0, .ref q7, .ref q15, .ref q23, .ref q31, .ref q39, .ref q47, .ref q55, .ref q63, .ref q71, .ref q79, .int 0, .int 0, .ref q87, .ref q94, .ref q101, .ref q108, .ref q115, .null, .null, .null, .null, .null, .null, .null, .null, .null])) :: [(q7, lk_ar τ 24), (q15, lk_ar τ 24), (q23, lk_ar τ 24), (q31, lk_ar τ 24), (q39, lk_ar τ 24), (q47, lk_ar τ 24), (q55, lk_ar τ 24), (q63, lk_ar τ 120), (q71, lk_ar τ 120), (q79, lk_ar τ 24), (q87, lk_ar τ 12), (q94, lk_ab τ 4), (q101, lk_ar τ 4), (q108, lk_ar τ 4), (q115, lk_ar τ 4), (q122, lk_ar τ 4)]) _ _ := h
  refine W.widen (k := 16) (n := 464) (by decide) (by decide) ?_
  refine in_putF (v := .ref q122) X hin rfl h 0 rfl rfl gl_MO ty_MO_ok nm_MO 18 (by decide) (.array .int) gf_MO_56 ⟨rfl, rfl, by decide +kernel⟩ ⟨rfl, rfl⟩ (Nat.le_of_ble_eq_true rfl) rfl d_MO_init_124 (fun H locs h => ?_)
  have h : lk_H D lk_cl A s.heap ((a, .inr (4, [.int 0, .ref q7, .ref q15, .ref q23, .ref q31, .ref q39, .ref q47, .ref q55, .ref q63, .ref q71, .ref q79, .int 0, .int 0, .ref q87, .ref q94, .ref q101, .ref q108, .ref q115, .ref q122, .null, .null, .null, .null, .null, .null, .null, .null])) :: [(q7, lk_ar τ 24), (q15, lk_ar τ 24), (q23, lk_ar τ 24), (q31, lk_ar τ 24), (q39, lk_ar τ 24), (q47, lk_ar τ 24), (q55, lk_ar τ 24), (q63, lk_ar τ 120), (q71, lk_ar τ 120), (q79, lk_ar τ 24), (q87, lk_ar τ 12), (q94, lk_ab τ 4), (q101, lk_ar τ 4), (q108, lk_ar τ 4), (q115, lk_ar τ 4), (q122, lk_ar τ 4)]) _ _ := h
  refine lv_aload_n hx hb d_MO_init_127 rfl (lv_at hl 0 rfl) ?_
  refine lv_iconst (v := nI 4) hx hb d_MO_init_128 (by decide) ?_
  refine in_newI X h hA (by decide) (by decide) (by decide) d_MO_init_129 (fun q129 H h => ?_)
  have h : lk_H D lk_cl A s.heap ((a, .inr (4, [.int 0, .ref q7, .ref q15, .ref q23, .ref q31, .ref q39, .ref q47, .ref q55, .ref q63, .ref q71, .ref q79, .int 0, .int 0, .ref q87, .ref q94, .ref q101, .ref q108, .ref q115, .ref q122, .null, .null, .null, .null, .null, .null, .null, .null])) :: [(q7, lk_ar τ 24), (q15, lk_ar τ 24), (q23, lk_ar τ 24), (q31, lk_ar τ 24), (q39, lk_ar τ 24), (q47, lk_ar τ 24), (q55, lk_ar τ 24), (q63, lk_ar τ 120), (q71, lk_ar τ 120), (q79, lk_ar τ 24), (q87, lk_ar τ 12), (q94, lk_ab τ 4), (q101, lk_ar τ 4), (q108, lk_ar τ 4), (q115, lk_ar τ 4), (q122, lk_ar τ 4), (q129, lk_ar τ 4)]) _ _ := h
  refine W.widen (k := 17) (n := 468) (by decide) (by decide) ?_
  refine in_putF (v := .ref q129) X hin rfl h 0 rfl rfl gl_MO ty_MO_ok nm_MO 19 (by decide) (.array .int) gf_MO_59 ⟨rfl, rfl, by decide +kernel⟩ ⟨rfl, rfl⟩ (Nat.le_of_ble_eq_true rfl) rfl d_MO_init_131 (fun H locs h => ?_)
  have h : lk_H D lk_cl A s.heap ((a, .inr (4, [.int 0, .ref q7, .ref q15, .ref q23, .ref q31, .ref q39, .ref q47, .ref q55, .ref q63, .ref q71, .ref q79, .int 0, .int 0, .ref q87, .ref q94, .ref q101, .ref q108, .ref q115, .ref q122, .ref q129, .null, .null, .null, .null, .null, .null, .null])) :: [(q7, lk_ar τ 24), (q15, lk_ar τ 24), (q23, lk_ar τ 24), (q31, lk_ar τ 24), (q39, lk_ar τ 24), (q47, lk_ar τ 24), (q55, lk_ar τ 24), (q63, lk_ar τ 120), (q71, lk_ar τ 120), (q79, lk_ar τ 24), (q87, lk_ar τ 12), (q94, lk_ab τ 4), (q101, lk_ar τ 4), (q108, lk_ar τ 4), (q115, lk_ar τ 4), (q122, lk_ar τ 4), (q129, lk_ar τ 4)]) _ _ := h
  refine lv_aload_n hx hb d_MO_init_134 rfl (lv_at hl 0 rfl) ?_
  refine lv_iconst (v := nI 4) hx hb d_MO_init_135 (by decide) ?_
  refine in_newI X h hA (by decide) (by decide) (by decide) d_MO_init_136 (fun q136 H h => ?_)
  have h : lk_H D lk_cl A s.heap ((a, .inr (4, [.int 0, .ref q7, .ref q15, .ref q23, .ref q31, .ref q39, .ref q47, .ref q55, .ref q63, .ref q71, .ref q79, .int 0, .int 0, .ref q87, .ref q94, .ref q101, .ref q108, .ref q115, .ref q122, .ref q129, .null, .null, .null, .null, .null, .null, .null])) :: [(q7, lk_ar τ 24), (q15, lk_ar τ 24), (q23, lk_ar τ 24), (q31, lk_ar τ 24), (q39, lk_ar τ 24), (q47, lk_ar τ 24), (q55, lk_ar τ 24), (q63, lk_ar τ 120), (q71, lk_ar τ 120), (q79, lk_ar τ 24), (q87, lk_ar τ 12), (q94, lk_ab τ 4), (q101, lk_ar τ 4), (q108, lk_ar τ 4), (q115, lk_ar τ 4), (q122, lk_ar τ 4), (q129, lk_ar τ 4), (q136, lk_ar τ 4)]) _ _ := h
  refine W.widen (k := 18) (n := 472) (by decide) (by decide) ?_
  refine in_putF (v := .ref q136) X hin rfl h 0 rfl rfl gl_MO ty_MO_ok nm_MO 20 (by decide) (.array .int) gf_MO_62 ⟨rfl, rfl, by decide +kernel⟩ ⟨rfl, rfl⟩ (Nat.le_of_ble_eq_true rfl) rfl d_MO_init_138 (fun H locs h => ?_)
  have h : lk_H D lk_cl A s.heap ((a, .inr (4, [.int 0, .ref q7, .ref q15, .ref q23, .ref q31, .ref q39, .ref q47, .ref q55, .ref q63, .ref q71, .ref q79, .int 0, .int 0, .ref q87, .ref q94, .ref q101, .ref q108, .ref q115, .ref q122, .ref q129, .ref q136, .null, .null, .null, .null, .null, .null])) :: [(q7, lk_ar τ 24), (q15, lk_ar τ 24), (q23, lk_ar τ 24), (q31, lk_ar τ 24), (q39, lk_ar τ 24), (q47, lk_ar τ 24), (q55, lk_ar τ 24), (q63, lk_ar τ 120), (q71, lk_ar τ 120), (q79, lk_ar τ 24), (q87, lk_ar τ 12), (q94, lk_ab τ 4), (q101, lk_ar τ 4), (q108, lk_ar τ 4), (q115, lk_ar τ 4), (q122, lk_ar τ 4), (q129, lk_ar τ 4), (q136, lk_ar τ 4)]) _ _ := h
  refine lv_aload_n hx hb d_MO_init_141 rfl (lv_at hl 0 rfl) ?_
  refine lv_iconst (v := nI 4) hx hb d_MO_init_142 (by decide) ?_
  refine in_newI X h hA (by decide) (by decide) (by decide) d_MO_init_143 (fun q143 H h => ?_)
  have h : lk_H D lk_cl A s.heap ((a, .inr (4, [.int 0, .ref q7, .ref q15, .ref q23, .ref q31, .ref q39, .ref q47, .ref q55, .ref q63, .ref q71, .ref q79, .int 0, .int 0, .ref q87, .ref q94, .ref q101, .ref q108, .ref q115, .ref q122, .ref q129, .ref q136, .null, .null, .null, .null, .null, .null])) :: [(q7, lk_ar τ 24), (q15, lk_ar τ 24), (q23, lk_ar τ 24), (q31, lk_ar τ 24), (q39, lk_ar τ 24), (q47, lk_ar τ 24), (q55, lk_ar τ 24), (q63, lk_ar τ 120), (q71, lk_ar τ 120), (q79, lk_ar τ 24), (q87, lk_ar τ 12), (q94, lk_ab τ 4), (q101, lk_ar τ 4), (q108, lk_ar τ 4), (q115, lk_ar τ 4), (q122, lk_ar τ 4), (q129, lk_ar τ 4), (q136, lk_ar τ 4), (q143, lk_ar τ 4)]) _ _ := h
  refine W.widen (k := 19) (n := 476) (by decide) (by decide) ?_
  refine in_putF (v := .ref q143) X hin rfl h 0 rfl rfl gl_MO ty_MO_ok nm_MO 21 (by decide) (.array .int) gf_MO_65 ⟨rfl, rfl, by decide +kernel⟩ ⟨rfl, rfl⟩ (Nat.le_of_ble_eq_true rfl) rfl d_MO_init_145 (fun H locs h => ?_)
  have h : lk_H D lk_cl A s.heap ((a, .inr (4, [.int 0, .ref q7, .ref q15, .ref q23, .ref q31, .ref q39, .ref q47, .ref q55, .ref q63, .ref q71, .ref q79, .int 0, .int 0, .ref q87, .ref q94, .ref q101, .ref q108, .ref q115, .ref q122, .ref q129, .ref q136, .ref q143, .null, .null, .null, .null, .null])) :: [(q7, lk_ar τ 24), (q15, lk_ar τ 24), (q23, lk_ar τ 24), (q31, lk_ar τ 24), (q39, lk_ar τ 24), (q47, lk_ar τ 24), (q55, lk_ar τ 24), (q63, lk_ar τ 120), (q71, lk_ar τ 120), (q79, lk_ar τ 24), (q87, lk_ar τ 12), (q94, lk_ab τ 4), (q101, lk_ar τ 4), (q108, lk_ar τ 4), (q115, lk_ar τ 4), (q122, lk_ar τ 4), (q129, lk_ar τ 4), (q136, lk_ar τ 4), (q143, lk_ar τ 4)]) _ _ := h
  refine lv_aload_n hx hb d_MO_init_148 rfl (lv_at hl 0 rfl) ?_
  refine lv_sipush (v := nI 128) hx hb d_MO_init_149 (by decide) ?_
  refine in_newI X h hA (by decide) (by decide) (by decide) d_MO_init_152 (fun q152 H h => ?_)
  have h : lk_H D lk_cl A s.heap ((a, .inr (4, [.int 0, .ref q7, .ref q15, .ref q23, .ref q31, .ref q39, .ref q47, .ref q55, .ref q63, .ref q71, .ref q79, .int 0, .int 0, .ref q87, .ref q94, .ref q101, .ref q108, .ref q115, .ref q122, .ref q129, .ref q136, .ref q143, .null, .null, .null, .null, .null])) :: [(q7, lk_ar τ 24), (q15, lk_ar τ 24), (q23, lk_ar τ 24), (q31, lk_ar τ 24), (q39, lk_ar τ 24), (q47, lk_ar τ 24), (q55, lk_ar τ 24), (q63, lk_ar τ 120), (q71, lk_ar τ 120), (q79, lk_ar τ 24), (q87, lk_ar τ 12), (q94, lk_ab τ 4), (q101, lk_ar τ 4), (q108, lk_ar τ 4), (q115, lk_ar τ 4), (q122, lk_ar τ 4), (q129, lk_ar τ 4), (q136, lk_ar τ 4), (q143, lk_ar τ 4), (q152, lk_ar τ 128)]) _ _ := h
  refine W.widen (k := 20) (n := 604) (by decide) (by decide) ?_
  refine in_putF (v := .ref q152) X hin rfl h 0 rfl rfl gl_MO ty_MO_ok nm_MO 22 (by decide) (.array .int) gf_MO_68 ⟨rfl, rfl, by decide +kernel⟩ ⟨rfl, rfl⟩ (Nat.le_of_ble_eq_true rfl) rfl d_MO_init_154 (fun H locs h => ?_)
  have h : lk_H D lk_cl A s.heap ((a, .inr (4, [.int 0, .ref q7, .ref q15, .ref q23, .ref q31, .ref q39, .ref q47, .ref q55, .ref q63, .ref q71, .ref q79, .int 0, .int 0, .ref q87, .ref q94, .ref q101, .ref q108, .ref q115, .ref q122, .ref q129, .ref q136, .ref q143, .ref q152, .null, .null, .null, .null])) :: [(q7, lk_ar τ 24), (q15, lk_ar τ 24), (q23, lk_ar τ 24), (q31, lk_ar τ 24), (q39, lk_ar τ 24), (q47, lk_ar τ 24), (q55, lk_ar τ 24), (q63, lk_ar τ 120), (q71, lk_ar τ 120), (q79, lk_ar τ 24), (q87, lk_ar τ 12), (q94, lk_ab τ 4), (q101, lk_ar τ 4), (q108, lk_ar τ 4), (q115, lk_ar τ 4), (q122, lk_ar τ 4), (q129, lk_ar τ 4), (q136, lk_ar τ 4), (q143, lk_ar τ 4), (q152, lk_ar τ 128)]) _ _ := h
  refine lv_aload_n hx hb d_MO_init_157 rfl (lv_at hl 0 rfl) ?_
  refine lv_iconst (v := nI 4) hx hb d_MO_init_158 (by decide) ?_
  refine in_newZ X h hA (by decide) (by decide) (by decide) d_MO_init_159 (fun q159 H h => ?_)
  have h : lk_H D lk_cl A s.heap ((a, .inr (4, [.int 0, .ref q7, .ref q15, .ref q23, .ref q31, .ref q39, .ref q47, .ref q55, .ref q63, .ref q71, .ref q79, .int 0, .int 0, .ref q87, .ref q94, .ref q101, .ref q108, .ref q115, .ref q122, .ref q129, .ref q136, .ref q143, .ref q152, .null, .null, .null, .null])) :: [(q7, lk_ar τ 24), (q15, lk_ar τ 24), (q23, lk_ar τ 24), (q31, lk_ar τ 24), (q39, lk_ar τ 24), (q47, lk_ar τ 24), (q55, lk_ar τ 24), (q63, lk_ar τ 120), (q71, lk_ar τ 120), (q79, lk_ar τ 24), (q87, lk_ar τ 12), (q94, lk_ab τ 4), (q101, lk_ar τ 4), (q108, lk_ar τ 4), (q115, lk_ar τ 4), (q122, lk_ar τ 4), (q129, lk_ar τ 4), (q136, lk_ar τ 4), (q143, lk_ar τ 4), (q152, lk_ar τ 128), (q159, lk_ab τ 4)]) _ _ := h
  refine W.widen (k := 21) (n := 608) (by decide) (by decide) ?_
  refine in_putF (v := .ref q159) X hin rfl h 0 rfl rfl gl_MO ty_MO_ok nm_MO 23 (by decide) (.array .boolean) gf_MO_71 ⟨rfl, rfl, by decide +kernel⟩ ⟨rfl, rfl⟩ (Nat.le_of_ble_eq_true rfl) rfl d_MO_init_161 (fun H locs h => ?_)
  have h : lk_H D lk_cl A s.heap ((a, .inr (4, [.int 0, .ref q7, .ref q15, .ref q23, .ref q31, .ref q39, .ref q47, .ref q55, .ref q63, .ref q71, .ref q79, .int 0, .int 0, .ref q87, .ref q94, .ref q101, .ref q108, .ref q115, .ref q122, .ref q129, .ref q136, .ref q143, .ref q152, .ref q159, .null, .null, .null])) :: [(q7, lk_ar τ 24), (q15, lk_ar τ 24), (q23, lk_ar τ 24), (q31, lk_ar τ 24), (q39, lk_ar τ 24), (q47, lk_ar τ 24), (q55, lk_ar τ 24), (q63, lk_ar τ 120), (q71, lk_ar τ 120), (q79, lk_ar τ 24), (q87, lk_ar τ 12), (q94, lk_ab τ 4), (q101, lk_ar τ 4), (q108, lk_ar τ 4), (q115, lk_ar τ 4), (q122, lk_ar τ 4), (q129, lk_ar τ 4), (q136, lk_ar τ 4), (q143, lk_ar τ 4), (q152, lk_ar τ 128), (q159, lk_ab τ 4)]) _ _ := h
  refine lv_aload_n hx hb d_MO_init_164 rfl (lv_at hl 0 rfl) ?_
  refine lv_iconst (v := nI 4) hx hb d_MO_init_165 (by decide) ?_
  refine in_newI X h hA (by decide) (by decide) (by decide) d_MO_init_166 (fun q166 H h => ?_)
  have h : lk_H D lk_cl A s.heap ((a, .inr (4, [.int 0, .ref q7, .ref q15, .ref q23, .ref q31, .ref q39, .ref q47, .ref q55, .ref q63, .ref q71, .ref q79, .int 0, .int 0, .ref q87, .ref q94, .ref q101, .ref q108, .ref q115, .ref q122, .ref q129, .ref q136, .ref q143, .ref q152, .ref q159, .null, .null, .null])) :: [(q7, lk_ar τ 24), (q15, lk_ar τ 24), (q23, lk_ar τ 24), (q31, lk_ar τ 24), (q39, lk_ar τ 24), (q47, lk_ar τ 24), (q55, lk_ar τ 24), (q63, lk_ar τ 120), (q71, lk_ar τ 120), (q79, lk_ar τ 24), (q87, lk_ar τ 12), (q94, lk_ab τ 4), (q101, lk_ar τ 4), (q108, lk_ar τ 4), (q115, lk_ar τ 4), (q122, lk_ar τ 4), (q129, lk_ar τ 4), (q136, lk_ar τ 4), (q143, lk_ar τ 4), (q152, lk_ar τ 128), (q159, lk_ab τ 4), (q166, lk_ar τ 4)]) _ _ := h
  refine W.widen (k := 22) (n := 612) (by decide) (by decide) ?_
  refine in_putF (v := .ref q166) X hin rfl h 0 rfl rfl gl_MO ty_MO_ok nm_MO 24 (by decide) (.array .int) gf_MO_74 ⟨rfl, rfl, by decide +kernel⟩ ⟨rfl, rfl⟩ (Nat.le_of_ble_eq_true rfl) rfl d_MO_init_168 (fun H locs h => ?_)
  have h : lk_H D lk_cl A s.heap ((a, .inr (4, [.int 0, .ref q7, .ref q15, .ref q23, .ref q31, .ref q39, .ref q47, .ref q55, .ref q63, .ref q71, .ref q79, .int 0, .int 0, .ref q87, .ref q94, .ref q101, .ref q108, .ref q115, .ref q122, .ref q129, .ref q136, .ref q143, .ref q152, .ref q159, .ref q166, .null, .null])) :: [(q7, lk_ar τ 24), (q15, lk_ar τ 24), (q23, lk_ar τ 24), (q31, lk_ar τ 24), (q39, lk_ar τ 24), (q47, lk_ar τ 24), (q55, lk_ar τ 24), (q63, lk_ar τ 120), (q71, lk_ar τ 120), (q79, lk_ar τ 24), (q87, lk_ar τ 12), (q94, lk_ab τ 4), (q101, lk_ar τ 4), (q108, lk_ar τ 4), (q115, lk_ar τ 4), (q122, lk_ar τ 4), (q129, lk_ar τ 4), (q136, lk_ar τ 4), (q143, lk_ar τ 4), (q152, lk_ar τ 128), (q159, lk_ab τ 4), (q166, lk_ar τ 4)]) _ _ := h
  refine lv_aload_n hx hb d_MO_init_171 rfl (lv_at hl 0 rfl) ?_
  refine lv_bipush (v := nI 16) hx hb d_MO_init_172 (by decide) ?_
  refine in_newI X h hA (by decide) (by decide) (by decide) d_MO_init_174 (fun q174 H h => ?_)
  have h : lk_H D lk_cl A s.heap ((a, .inr (4, [.int 0, .ref q7, .ref q15, .ref q23, .ref q31, .ref q39, .ref q47, .ref q55, .ref q63, .ref q71, .ref q79, .int 0, .int 0, .ref q87, .ref q94, .ref q101, .ref q108, .ref q115, .ref q122, .ref q129, .ref q136, .ref q143, .ref q152, .ref q159, .ref q166, .null, .null])) :: [(q7, lk_ar τ 24), (q15, lk_ar τ 24), (q23, lk_ar τ 24), (q31, lk_ar τ 24), (q39, lk_ar τ 24), (q47, lk_ar τ 24), (q55, lk_ar τ 24), (q63, lk_ar τ 120), (q71, lk_ar τ 120), (q79, lk_ar τ 24), (q87, lk_ar τ 12), (q94, lk_ab τ 4), (q101, lk_ar τ 4), (q108, lk_ar τ 4), (q115, lk_ar τ 4), (q122, lk_ar τ 4), (q129, lk_ar τ 4), (q136, lk_ar τ 4), (q143, lk_ar τ 4), (q152, lk_ar τ 128), (q159, lk_ab τ 4), (q166, lk_ar τ 4), (q174, lk_ar τ 16)]) _ _ := h
  refine W.widen (k := 23) (n := 628) (by decide) (by decide) ?_
  refine in_putF (v := .ref q174) X hin rfl h 0 rfl rfl gl_MO ty_MO_ok nm_MO 25 (by decide) (.array .int) gf_MO_77 ⟨rfl, rfl, by decide +kernel⟩ ⟨rfl, rfl⟩ (Nat.le_of_ble_eq_true rfl) rfl d_MO_init_176 (fun H locs h => ?_)
  have h : lk_H D lk_cl A s.heap ((a, .inr (4, [.int 0, .ref q7, .ref q15, .ref q23, .ref q31, .ref q39, .ref q47, .ref q55, .ref q63, .ref q71, .ref q79, .int 0, .int 0, .ref q87, .ref q94, .ref q101, .ref q108, .ref q115, .ref q122, .ref q129, .ref q136, .ref q143, .ref q152, .ref q159, .ref q166, .ref q174, .null])) :: [(q7, lk_ar τ 24), (q15, lk_ar τ 24), (q23, lk_ar τ 24), (q31, lk_ar τ 24), (q39, lk_ar τ 24), (q47, lk_ar τ 24), (q55, lk_ar τ 24), (q63, lk_ar τ 120), (q71, lk_ar τ 120), (q79, lk_ar τ 24), (q87, lk_ar τ 12), (q94, lk_ab τ 4), (q101, lk_ar τ 4), (q108, lk_ar τ 4), (q115, lk_ar τ 4), (q122, lk_ar τ 4), (q129, lk_ar τ 4), (q136, lk_ar τ 4), (q143, lk_ar τ 4), (q152, lk_ar τ 128), (q159, lk_ab τ 4), (q166, lk_ar τ 4), (q174, lk_ar τ 16)]) _ _ := h
  refine lv_aload_n hx hb d_MO_init_179 rfl (lv_at hl 0 rfl) ?_
  refine lv_bipush (v := nI 120) hx hb d_MO_init_180 (by decide) ?_
  refine in_newI X h hA (by decide) (by decide) (by decide) d_MO_init_182 (fun q182 H h => ?_)
  have h : lk_H D lk_cl A s.heap ((a, .inr (4, [.int 0, .ref q7, .ref q15, .ref q23, .ref q31, .ref q39, .ref q47, .ref q55, .ref q63, .ref q71, .ref q79, .int 0, .int 0, .ref q87, .ref q94, .ref q101, .ref q108, .ref q115, .ref q122, .ref q129, .ref q136, .ref q143, .ref q152, .ref q159, .ref q166, .ref q174, .null])) :: [(q7, lk_ar τ 24), (q15, lk_ar τ 24), (q23, lk_ar τ 24), (q31, lk_ar τ 24), (q39, lk_ar τ 24), (q47, lk_ar τ 24), (q55, lk_ar τ 24), (q63, lk_ar τ 120), (q71, lk_ar τ 120), (q79, lk_ar τ 24), (q87, lk_ar τ 12), (q94, lk_ab τ 4), (q101, lk_ar τ 4), (q108, lk_ar τ 4), (q115, lk_ar τ 4), (q122, lk_ar τ 4), (q129, lk_ar τ 4), (q136, lk_ar τ 4), (q143, lk_ar τ 4), (q152, lk_ar τ 128), (q159, lk_ab τ 4), (q166, lk_ar τ 4), (q174, lk_ar τ 16), (q182, lk_ar τ 120)]) _ _ := h
  refine W.widen (k := 24) (n := 748) (by decide) (by decide) ?_
  refine in_putF (v := .ref q182) X hin rfl h 0 rfl rfl gl_MO ty_MO_ok nm_MO 26 (by decide) (.array .int) gf_MO_80 ⟨rfl, rfl, by decide +kernel⟩ ⟨rfl, rfl⟩ (Nat.le_of_ble_eq_true rfl) rfl d_MO_init_184 (fun H locs h => ?_)
  have h : lk_H D lk_cl A s.heap ((a, .inr (4, [.int 0, .ref q7, .ref q15, .ref q23, .ref q31, .ref q39, .ref q47, .ref q55, .ref q63, .ref q71, .ref q79, .int 0, .int 0, .ref q87, .ref q94, .ref q101, .ref q108, .ref q115, .ref q122, .ref q129, .ref q136, .ref q143, .ref q152, .ref q159, .ref q166, .ref q174, .ref q182])) :: [(q7, lk_ar τ 24), (q15, lk_ar τ 24), (q23, lk_ar τ 24), (q31, lk_ar τ 24), (q39, lk_ar τ 24), (q47, lk_ar τ 24), (q55, lk_ar τ 24), (q63, lk_ar τ 120), (q71, lk_ar τ 120), (q79, lk_ar τ 24), (q87, lk_ar τ 12), (q94, lk_ab τ 4), (q101, lk_ar τ 4), (q108, lk_ar τ 4), (q115, lk_ar τ 4), (q122, lk_ar τ 4), (q129, lk_ar τ 4), (q136, lk_ar τ 4), (q143, lk_ar τ 4), (q152, lk_ar τ 128), (q159, lk_ab τ 4), (q166, lk_ar τ 4), (q174, lk_ar τ 16), (q182, lk_ar τ 120)]) _ _ := h
  obtain ⟨ad, had⟩ : ∃ ad : Nat → Nat, ad = fun k => ([a, q7, q15, q23, q31, q39, q47, q55, q63, q71, q79, q87, q94, q101, q108, q115, q122, q129, q136, q143, q152, q159, q166, q174, q182] : List Nat).getD k 0 := ⟨_, rfl⟩
  have ew : (a, .inr (4, [.int 0, .ref q7, .ref q15, .ref q23, .ref q31, .ref q39, .ref q47, .ref q55, .ref q63, .ref q71, .ref q79, .int 0, .int 0, .ref q87, .ref q94, .ref q101, .ref q108, .ref q115, .ref q122, .ref q129, .ref q136, .ref q143, .ref q152, .ref q159, .ref q166, .ref q174, .ref q182])) :: [(q7, lk_ar τ 24), (q15, lk_ar τ 24), (q23, lk_ar τ 24), (q31, lk_ar τ 24), (q39, lk_ar τ 24), (q47, lk_ar τ 24), (q55, lk_ar τ 24), (q63, lk_ar τ 120), (q71, lk_ar τ 120), (q79, lk_ar τ 24), (q87, lk_ar τ 12), (q94, lk_ab τ 4), (q101, lk_ar τ 4), (q108, lk_ar τ 4), (q115, lk_ar τ 4), (q122, lk_ar τ 4), (q129, lk_ar τ 4), (q136, lk_ar τ 4), (q143, lk_ar τ 4), (q152, lk_ar τ 128), (q159, lk_ab τ 4), (q166, lk_ar τ 4), (q174, lk_ar τ 16), (q182, lk_ar τ 120)] = lk_w 25 ad (lk_me τ ad mm_Z) := by rw [had]; rfl
  rw [ew] at h
  have ea : a = ad 0 := by rw [had]; rfl
  have hl : lv_has ls 2 [(0, .ref (ad 0))] := by rw [← ea]; exact hl
  refine lv_aload_n hx hb d_MO_init_187 rfl (lv_at hl 0 rfl) ?_
  refine mo_get X rfl h 1 (by decide) rfl gf_MO_7 rfl d_MO_init_188 ?_
  refine lv_iconst (v := nI 0) hx hb d_MO_init_191 (by decide) ?_
  refine lv_iconst (v := 1) hx hb d_MO_init_192 (by decide) ?_
  refine mo_ast X h 0 24 rfl (by decide) (j := 0) (v := 1) (by omega) (by decide) d_MO_init_193 (fun H locs h => ?_)
  refine lv_aload_n hx hb d_MO_init_194 rfl (lv_at hl 0 rfl) ?_
  refine mo_get X rfl h 3 (by decide) rfl gf_MO_16 rfl d_MO_init_195 ?_
  refine lv_iconst (v := nI 0) hx hb d_MO_init_198 (by decide) ?_
  refine lv_iconst (v := (-1)) hx hb d_MO_init_199 (by decide) ?_
  refine mo_ast X h 2 24 rfl (by decide) (j := 0) (v := (-1)) (by omega) (by decide) d_MO_init_200 (fun H locs h => ?_)
  refine lv_aload_n hx hb d_MO_init_201 rfl (lv_at hl 0 rfl) ?_
  refine mo_get X rfl h 4 (by decide) rfl gf_MO_19 rfl d_MO_init_202 ?_
  refine lv_iconst (v := nI 0) hx hb d_MO_init_205 (by decide) ?_
  refine lv_sipush (v := 999) hx hb d_MO_init_206 (by decide) ?_
  refine mo_ast X h 3 24 rfl (by decide) (j := 0) (v := 999) (by omega) (by decide) d_MO_init_209 (fun H locs h => ?_)
  refine lv_aload_n hx hb d_MO_init_210 rfl (lv_at hl 0 rfl) ?_
  refine mo_get X rfl h 5 (by decide) rfl gf_MO_22 rfl d_MO_init_211 ?_
  refine lv_iconst (v := nI 0) hx hb d_MO_init_214 (by decide) ?_
  refine lv_iconst (v := (-1)) hx hb d_MO_init_215 (by decide) ?_
  refine mo_ast X h 4 24 rfl (by decide) (j := 0) (v := (-1)) (by omega) (by decide) d_MO_init_216 (fun H locs h => ?_)
  refine lv_iconst (v := nI 0) hx hb d_MO_init_217 (by decide) ?_
  refine lv_istore_n hx hb d_MO_init_218 rfl hl (by decide) rfl (fun ls hl => ?_)
  have hl : lv_has ls 2 [(1, .int (nI 0)), (0, .ref (ad 0))] := hl
  rw [← mm_I_0] at h
  refine w_MO_init X 24 0 (by omega) _ _ ls h hl (fun H locs ls h => ?_)
  exact W.widen (by decide) (by decide) (W.vret hx hb X.2.2.2.1 (fun t ht hW => ⟨⟨ad, rfl, ea.symm, ⟨by rw [ht]; exact h.P, va_K.moved hW.alike hK⟩, h.D⟩, h.S.F ht⟩) h.S.2.2 d_MO_init_238 B.notSynchronized)
