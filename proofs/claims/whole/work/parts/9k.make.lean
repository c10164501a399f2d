/-! the law's entry: the two objects and the box are made -/
theorem lk_H.left {D : va_G} {cl : List vw_C} {A : Nat → Prop} {H0 : Heap} {w1 w2 : va_W} {H : Heap} {locs : List Loc} (h : lk_H D cl A H0 (w1 ++ w2) H locs) : lk_H D cl A H0 w1 H locs := by
  have g : ∀ (k : Nat) (q : Nat × va_E), w1[k]? = some q → (w1 ++ w2)[k]? = some q := fun k q hk => by
    rw [List.getElem?_append_left (List.getElem?_eq_some_iff.mp hk).1]; exact hk
  exact ⟨fun k q hk => h.P k q (g k q hk), ⟨fun i j x y hx hy => h.D.1 i j x y (g i x hx) (g j y hy), fun k q hk => h.D.2 k q (g k q hk)⟩, h.S⟩
theorem lk_getr {w1 w2 : va_W} {k : Nat} {q : Nat × va_E} (hk : w2[k]? = some q) : (w1 ++ w2)[w1.length + k]? = some q := by
  rw [List.getElem?_append_right (Nat.le_add_right _ _), Nat.add_sub_cancel_left]; exact hk
theorem lk_H.right {D : va_G} {cl : List vw_C} {A : Nat → Prop} {H0 : Heap} {w1 w2 : va_W} {H : Heap} {locs : List Loc} (h : lk_H D cl A H0 (w1 ++ w2) H locs) : lk_H D cl A H0 w2 H locs :=
  ⟨fun k q hk => h.P _ q (lk_getr hk), ⟨fun i j x y hx hy z => by have := h.D.1 _ _ x y (lk_getr (w1 := w1) hx) (lk_getr (w1 := w1) hy) z; omega, fun k q hk => h.D.2 _ q (lk_getr hk)⟩, h.S⟩
theorem lk_H.apart {D : va_G} {cl : List vw_C} {A : Nat → Prop} {H0 : Heap} {w1 w2 : va_W} {H : Heap} {locs : List Loc} (h : lk_H D cl A H0 (w1 ++ w2) H locs) {i j : Nat} {x y : Nat × va_E} (hx : w1[i]? = some x) (hy : w2[j]? = some y) : x.1 ≠ y.1 := fun z => by
  have hi := (List.getElem?_eq_some_iff.mp hx).1
  have := h.D.1 i (w1.length + j) x y (by rw [List.getElem?_append_left hi]; exact hx) (lk_getr hy) z
  omega
theorem lk_H.app {D : va_G} {cl : List vw_C} {A : Nat → Prop} {H0 : Heap} {w1 w2 : va_W} {H : Heap} {locs : List Loc} (h1 : lk_H D cl A H0 w1 H locs) (h2 : lk_H D cl A H0 w2 H locs) (hx : ∀ (i j : Nat) (p q : Nat × va_E), w1[i]? = some p → w2[j]? = some q → p.1 ≠ q.1) : lk_H D cl A H0 (w1 ++ w2) H locs := ⟨h1.P.app h2.P, h1.D.app h2.D hx, h1.S⟩
theorem lk_arr {cA : ClassId} {N : Nat} {f g : Nat → Value} (h : ∀ j, j < N → f j = g j) : arrV cA N f = arrV cA N g := by
  unfold arrV
  have : (fun j : Fin N => f j.val) = fun j : Fin N => g j.val := funext (fun j => h j.val j.isLt)
  rw [this]
/-- the class's cells, by two numberings that agree on them -/
theorem lk_ce_at {D : va_G} {τ : Nat → ClassId} {ad ad' : Nat → Nat} {M : lk_M} {H : Heap} (he : ∀ i, i < 88 → ad' i = ad i) {k : Nat} (hk : k < 88) (h : va_at D lk_cl (ad k, lk_ce τ ad M k) H) : va_at D lk_cl (ad' k, lk_ce τ ad' M k) H := by
  rw [he k hk]
  by_cases c1 : k = 1
  · subst c1
    have h : H[ad 1]? = some (vp_cell (τ 2) (24, .inr (.inr (.inr (.inr (fun j => some (ad (5 + j)))))))) := h
    show H[ad 1]? = some (vp_cell (τ 2) (24, .inr (.inr (.inr (.inr (fun j => some (ad' (5 + j))))))))
    rw [h, vp_cell_q, vp_cell_q]
    exact congrArg some (lk_arr (fun j hj => by rw [he (5 + j) (by omega)]))
  by_cases c2 : k = 2
  · subst c2
    have h : H[ad 2]? = some (vp_cell (τ 3) (4, .inr (.inr (.inr (.inr (fun j => some (ad (80 + j)))))))) := h
    show H[ad 2]? = some (vp_cell (τ 3) (4, .inr (.inr (.inr (.inr (fun j => some (ad' (80 + j))))))))
    rw [h, vp_cell_q, vp_cell_q]
    exact congrArg some (lk_arr (fun j hj => by rw [he (80 + j) (by omega)]))
  have e : lk_ce τ ad' M k = lk_ce τ ad M k := by
    unfold lk_ce
    rw [if_neg c1, if_neg c1, if_neg c2, if_neg c2]
    by_cases c0 : k = 0
    · rw [if_pos c0, if_pos c0]
      unfold lk_lf
      rw [he 1 (by omega), he 29 (by omega), he 2 (by omega), he 3 (by omega)]
    · rw [if_neg c0, if_neg c0]
      by_cases c3 : k = 3
      · rw [if_pos c3, if_pos c3]
        unfold lk_sf
        rw [he 4 (by omega)]
      · rw [if_neg c3, if_neg c3]
        by_cases c4 : k = 4
        · rw [if_pos c4, if_pos c4]
        · rw [if_neg c4, if_neg c4]
          by_cases c5 : k < 30
          · rw [if_pos c5, if_pos c5]
            unfold lk_nf
            rw [he (30 + (k - 5)) (by omega), he (55 + (k - 5)) (by omega)]
          · rw [if_neg c5, if_neg c5]
            by_cases c6 : k < 55
            · rw [if_pos c6, if_pos c6]
            · rw [if_neg c6, if_neg c6]
              by_cases c7 : k < 80
              · rw [if_pos c7, if_pos c7]
              · rw [if_neg c7, if_neg c7]
                by_cases c8 : k < 84
                · rw [if_pos c8, if_pos c8]
                  unfold lk_tf
                  rw [he (84 + (k - 80)) (by omega)]
                · rw [if_neg c8, if_neg c8]
  rw [e]
  exact h
def lk_lj (τ : Nat → ClassId) : va_E := .inl (τ 4, 1, .inr (.inl (fun _ => 0)))
theorem lk_bx0 (τ : Nat → ClassId) : lk_bx τ (cc_I 25 0) = lk_lj τ := by
  have e : cc_I 25 0 = 0 := by rw [lk_cI_at]; decide
  unfold lk_bx lk_lj
  rw [e]
  have z : (fun j : Nat => if j = 0 then Int32.toInt64 0 else 0) = fun _ => 0 := funext (fun j => by
    by_cases c : j = 0
    · rw [if_pos c]; decide
    · rw [if_neg c])
  rw [z]
theorem lk_J0 {D : va_G} {τ : Nat → ClassId} {A : Nat → Prop} {H0 H : Heap} {locs : List Loc} {u w : Nat → Nat} {qJ : Nat} (h : lk_H D lk_cl A H0 ((lk_w 88 u (lk_ce τ u cc_I) ++ lk_w 25 w (lk_me τ w (mm_I 24))) ++ [(qJ, lk_lj τ)]) H locs) : ∃ adC : Nat → Nat, adC 0 = u 0 ∧ adC 88 = qJ ∧ lk_J D τ A H0 adC w cc_I (mm_I 24) H locs := by
  have hC := h.left.left
  have hM := h.left.right
  have hJ := h.right
  have apM : ∀ i, i < 88 → ∀ j, j < 25 → u i ≠ w j := fun i hi j hj => h.left.apart (lk_w_get hi) (lk_w_get hj)
  have apC : ∀ i, i < 88 → u i ≠ qJ := fun i hi => h.apart (j := 0) (y := (qJ, lk_lj τ)) (by rw [List.getElem?_append_left (by rw [lk_w_len]; exact hi)]; exact lk_w_get hi) rfl
  have apW : ∀ j, j < 25 → w j ≠ qJ := fun j hj => h.apart (j := 0) (y := (qJ, lk_lj τ)) (lk_getr (w1 := lk_w 88 u (lk_ce τ u cc_I)) (lk_w_get hj)) rfl
  refine ⟨fun k => if k = 88 then qJ else u k, rfl, rfl, ⟨fun k q hk => ?_, ⟨fun i j x y hx hy z => ?_, fun k q hk => ?_⟩, h.S⟩, hM, fun i hi j hj => ?_⟩
  · obtain ⟨h1, rfl⟩ := lk_w_lt hk
    by_cases c : k < 88
    · have e : lk_cf τ (fun k => if k = 88 then qJ else u k) cc_I k = lk_ce τ (fun k => if k = 88 then qJ else u k) cc_I k := by
        unfold lk_cf; rw [if_pos c]
      rw [e]
      exact lk_ce_at (ad := u) (ad' := fun k => if k = 88 then qJ else u k) (fun i hi => by show (if i = 88 then qJ else u i) = u i; rw [if_neg (by omega)]) c (hC.P k _ (lk_w_get c))
    · have k8 : k = 88 := by omega
      subst k8
      show va_at D lk_cl (qJ, lk_bx τ (cc_I 25 0)) H
      rw [lk_bx0]
      exact hJ.P 0 _ rfl
  · obtain ⟨h1, rfl⟩ := lk_w_lt hx
    obtain ⟨h2, rfl⟩ := lk_w_lt hy
    have z : (if i = 88 then qJ else u i) = if j = 88 then qJ else u j := z
    by_cases ci : i = 88
    · rw [if_pos ci] at z
      by_cases cj : j = 88
      · omega
      · rw [if_neg cj] at z
        exact absurd z.symm (apC j (by omega))
    · rw [if_neg ci] at z
      by_cases cj : j = 88
      · rw [if_pos cj] at z
        exact absurd z (apC i (by omega))
      · rw [if_neg cj] at z
        exact hC.D.1 i j _ _ (lk_w_get (by omega)) (lk_w_get (by omega)) z
  · obtain ⟨h1, rfl⟩ := lk_w_lt hk
    show A (if k = 88 then qJ else u k)
    by_cases c : k = 88
    · rw [if_pos c]; exact hJ.D.2 0 (qJ, lk_lj τ) rfl
    · rw [if_neg c]; exact hC.D.2 k (u k, _) (lk_w_get (by omega))
  · show (if i = 88 then qJ else u i) ≠ w j
    by_cases c : i = 88
    · rw [if_pos c]; exact Ne.symm (apW j hj)
    · rw [if_neg c]; exact apM i (by omega) j hj
theorem lk_fsL : ∀ j, j < 5 → defaultValue (ty_LT j) = vp_V [.null, .null, .null, .null, .int 0] j := fun j hj => by
  have : j = 0 ∨ j = 1 ∨ j = 2 ∨ j = 3 ∨ j = 4 := by omega
  rcases this with z | z | z | z | z <;> subst z <;> rfl
theorem lk_fsM : ∀ j, j < 27 → defaultValue (ty_MO j) = vp_V lk_mo0 j := fun j hj => by
  have : j = 0 ∨ j = 1 ∨ j = 2 ∨ j = 3 ∨ j = 4 ∨ j = 5 ∨ j = 6 ∨ j = 7 ∨ j = 8 ∨ j = 9 ∨ j = 10 ∨ j = 11 ∨ j = 12 ∨ j = 13 ∨ j = 14 ∨ j = 15 ∨ j = 16 ∨ j = 17 ∨ j = 18 ∨ j = 19 ∨ j = 20 ∨ j = 21 ∨ j = 22 ∨ j = 23 ∨ j = 24 ∨ j = 25 ∨ j = 26 := by omega
  rcases this with z | z | z | z | z | z | z | z | z | z | z | z | z | z | z | z | z | z | z | z | z | z | z | z | z | z | z <;> subst z <;> rfl
section Make
variable {p : Program} {l : Launch} {e : Env} {R : Room} {s : State} {m : MethodId} {args : Array Value} {below : List Frame} {meth : Method} {c : Code} {H : Heap} {locs : List Loc} {cells slots : Nat} {Q : State → Prop}
variable {D : va_G} {τ : Nat → ClassId} {ret : Option FieldType} {A : Nat → Prop} {pc q : Nat} {ls : Array Slot} {rest : List Value}
theorem lk_newL (X : lk_X p s m args meth c y_LW_law b_LW_law 7 ret D τ) (hA : ∀ q, s.heap.size ≤ q → A q) (hEL : lk_EL s) (h : lk_H D lk_cl A s.heap [(q, lk_lt0)] H locs) (hR : 3 ≤ R.frames ∧ 81 ≤ R.locals) (hsz : ls.size = 7) (hW : (rest.map fun v => v.category).sum ≤ 8) (hdg : decode b_LW_law pc = .ok (.invokespecial 40, 3)) (hf : cells + 87 ≤ R.cells ∧ slots + 731 ≤ R.slots)
    (kk : ∀ (u : Nat → Nat) (H1 : Heap) (locs1 : List Loc), u 0 = q → lk_H D lk_cl A s.heap (lk_w 88 u (lk_ce τ u cc_I)) H1 locs1 → W p l e R s m args below meth c H1 locs1 (cells + 87) (slots + 731) Q (F0 m (pc + 3) ls rest)) : W p l e R s m args below meth c H locs cells slots Q (F0 m pc ls (.ref q :: rest)) := by
  obtain ⟨hx, hb, hml, -, hts, hown, -, hK⟩ := X
  have blind : FrameBlind (va_Pc [.ref q] (fun U => lk_Pre D τ [(q, lk_lt0)] H.size U ∧ lk_EL U)) := fun a U g mk z => by
    obtain ⟨q0, ⟨q1, qP, qK, qD⟩, qE⟩ := z
    exact ⟨q0, ⟨q1, qP, va_K.moved (u := U) (U := U.calling g mk a) (Vm.Alike.refl U.vm) qK, qD⟩, lk_EL.warm (s := U) (U := U.calling g mk a) (State.WarmedH.refl U) qE⟩
  have pre : ∀ U : State, U.heap = H → s.WarmedH U.vm → va_Pc [.ref q] (fun U => lk_Pre D τ [(q, lk_lt0)] H.size U ∧ lk_EL U) [Value.ref q].toArray U := fun U hU hW => ⟨rfl, (in_pre (av := [.ref q]) hK h U hU hW).2, lk_EL.warm hW hEL⟩
  refine va_callv (va_runI (As := []) (rest := rest) (b := q) ⟨hx, hb, hml, hown, hts⟩ (c_LT_init l D τ q H.size) (cwI 0 hts (lk_gin (fun _ h => h) gc_LT_init) rfl rfl rfl (hts _ gn_LT) (hts _ gm_LW_40) (hts _ gi_LT_init) rfl gd_LT_init ⟨hR.1, hR.2⟩) ⟨blind, pre⟩ rfl rfl hsz rfl (lv_room (rest := .ref q :: rest) hW) hdg hf) h.S (fun x _ hx => in_A h hA x hx) (in_A h hA) (fun u t H1 locs1 ht _ hp hB _ _ hS => ?_)
  exact kk u H1 locs1 hp ⟨by rw [← ht]; exact hB.1.1, hB.2.weaken (fun _ q _ z => in_A h hA q.1 z), hS⟩
theorem lk_newM {u : Nat → Nat} (X : lk_X p s m args meth c y_LW_law b_LW_law 7 ret D τ) (hA : ∀ q, s.heap.size ≤ q → A q) (h0 : lk_H D lk_cl A s.heap (lk_w 88 u (lk_ce τ u cc_I) ++ [(q, .inr (4, lk_mo0))]) H locs) (hR : 2 ≤ R.frames ∧ 41 ≤ R.locals) (hsz : ls.size = 7) (hW : (rest.map fun v => v.category).sum ≤ 8) (hdg : decode b_LW_law pc = .ok (.invokespecial 43, 3)) (hf : cells + 24 ≤ R.cells ∧ slots + 1000 ≤ R.slots)
    (kk : ∀ (w : Nat → Nat) (H1 : Heap) (locs1 : List Loc), w 0 = q → lk_H D lk_cl A s.heap (lk_w 88 u (lk_ce τ u cc_I) ++ lk_w 25 w (lk_me τ w (mm_I 24))) H1 locs1 → W p l e R s m args below meth c H1 locs1 (cells + 24) (slots + 1000) Q (F0 m (pc + 3) ls rest)) : W p l e R s m args below meth c H locs cells slots Q (F0 m pc ls (.ref q :: rest)) := by
  obtain ⟨hx, hb, hml, -, hts, hown, -, hK⟩ := X
  have h := h0.right
  have hC := h0.left
  have ap : ∀ i, i < 88 → u i ≠ q := fun i hi => h0.apart (j := 0) (y := (q, .inr (4, lk_mo0))) (lk_w_get hi) rfl
  refine va_callv (va_runI (As := []) (rest := rest) (b := q) ⟨hx, hb, hml, hown, hts⟩ (c_MO_init l D τ q H.size) (cwI 0 hts (lk_gin (fun _ h => h) gc_MO_init) rfl rfl rfl (hts _ gn_MO) (hts _ gm_LW_43) (hts _ gi_MO_init) rfl gd_MO_init ⟨hR.1, hR.2⟩) ⟨lk_blind, in_pre (av := [.ref q]) hK h⟩ rfl rfl hsz rfl (lv_room (rest := .ref q :: rest) hW) hdg hf) h.S (fun x _ hx => in_A h hA x hx) (in_A h hA) (fun w t H1 locs1 ht _ hp hB _ hk hS => ?_)
  have out : ∀ i, i < 88 → ¬ va_A [(q, .inr (4, lk_mo0))] H.size (u i) := fun i hi z => by
    have lt := vx_lt hC.P (lk_w_get hi)
    rcases z with ⟨k, e0, z⟩ | z
    · have hk1 := (List.getElem?_eq_some_iff.mp z).1
      have hk0 : k = 0 := by have : k < 1 := hk1; omega
      subst hk0
      have z : some (q, (.inr (4, lk_mo0) : va_E)) = some (u i, e0) := z
      exact ap i hi (congrArg Prod.fst (Option.some.inj z)).symm
    · exact absurd lt (Nat.not_lt.mpr z)
  refine kk w H1 locs1 hp (lk_H.app ⟨hC.P.kept (fun k x hx => ?_), hC.D, hS⟩ ⟨by rw [← ht]; exact hB.1.1, hB.2.weaken (fun _ q _ z => in_A h hA q.1 z), hS⟩ (fun i j x y hx hy z => ?_))
  · have lt := vx_lt hC.P hx
    obtain ⟨h1, rfl⟩ := lk_w_lt hx
    exact hk _ lt (out k h1)
  · obtain ⟨h1, rfl⟩ := lk_w_lt hx
    have d := hB.2.2 j y hy
    have z : u i = y.1 := z
    rw [← z] at d
    exact out i h1 d
end Make
