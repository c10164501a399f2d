section RetQ
variable {p : Program} {l : Launch} {e : Env} {R : Room} {s : State} {m : MethodId} {args : Array Value} {below : List Frame} {meth : Method} {c : Code} {H : Heap} {locs : List Loc} {D : va_G} {τ : Nat → ClassId} {n : Nat} {ad : Nat → Nat} {el : lk_M → Nat → va_E} {y : MethodName} {b : ByteArray} {nL : Nat} {A : Nat → Prop} {pc : Nat} {ls : Array Slot} {σ : lk_M} {nm : String}
theorem lk_retq {post : Option Nat → lk_M → Prop} {a : Nat} (X : lk_X p s m args meth c y b nL (some (.object nm)) D τ) (h : lk_H D lk_cl A s.heap (lk_w n ad (el σ)) H locs) (hdg : decode b pc = .ok (.areturn, 1)) (hp : post (some a) σ) :
    W p l e R s m args below meth c H locs 0 0 (MQ below (va_Qq post (lk_Bh D τ n ad el) A) args s 0 0 A) (F0 m pc ls [.ref a]) := by
  obtain ⟨hx, hb, -, hr, -, -, hlocks, hK⟩ := X
  exact W.aret hx hb hr (Or.inl ⟨_, rfl⟩) (Or.inr ⟨a, rfl⟩) (fun t ht hW => ⟨⟨some a, σ, rfl, hp, by rw [ht]; exact h.P, va_K.moved hW.alike hK⟩, h.S.F ht⟩) h.S.2.2 hdg
theorem lk_retn {post : Option Nat → lk_M → Prop} (X : lk_X p s m args meth c y b nL (some (.object nm)) D τ) (h : lk_H D lk_cl A s.heap (lk_w n ad (el σ)) H locs) (hdg : decode b pc = .ok (.areturn, 1)) (hp : post none σ) :
    W p l e R s m args below meth c H locs 0 0 (MQ below (va_Qq post (lk_Bh D τ n ad el) A) args s 0 0 A) (F0 m pc ls [.null]) := by
  obtain ⟨hx, hb, -, hr, -, -, hlocks, hK⟩ := X
  exact W.aret hx hb hr (Or.inl ⟨_, rfl⟩) (Or.inl rfl) (fun t ht hW => ⟨⟨none, σ, rfl, hp, by rw [ht]; exact h.P, va_K.moved hW.alike hK⟩, h.S.F ht⟩) h.S.2.2 hdg
end RetQ
theorem lk_mvF_f (a b : Nat) {f i : Nat} (h5 : f ≠ 5) (h7 : f ≠ 7) (h8 : f ≠ 8) : ∀ (r na nb : Nat) (σ : lk_M), lk_mvF a b r na nb σ f i = σ f i := by
  intro r
  induction r with
  | zero => intro na nb σ; rfl
  | succ r ih => intro na nb σ; exact (ih _ _ _).trans ((lk_del_f h5 h7 h8).trans (lk_ins_f h5 h7 h8))
theorem lk_mvL_5 (a b : Nat) (hab : a ≠ b) : ∀ (r na nb : Nat) (σ : lk_M), r ≤ na → σ 5 a = nI na → σ 5 b = nI nb → lk_mvL a b r na nb σ 5 a = nI (na - r) ∧ lk_mvL a b r na nb σ 5 b = nI (nb + r) := by
  intro r
  induction r with
  | zero => intro na nb σ _ h1 h2; exact ⟨h1, h2⟩
  | succ r ih =>
    intro na nb σ hr h1 h2
    obtain ⟨q1, q2⟩ := ih (na - 1) (nb + 1) (lk_st (lk_ins σ b 0 nb (σ 7 (5 * a + na - 1)) (σ 8 (5 * a + na - 1))) 5 a (nI (na - 1))) (by omega) lk_st_s (by rw [lk_st_p (Ne.symm hab), lk_ins_5, if_pos rfl])
    refine ⟨?_, ?_⟩
    · show lk_mvL a b r (na - 1) (nb + 1) _ 5 a = _
      rw [q1, show na - 1 - r = na - (r + 1) by omega]
    · show lk_mvL a b r (na - 1) (nb + 1) _ 5 b = _
      rw [q2, show nb + 1 + r = nb + (r + 1) by omega]
section
variable {pg : Program} {l : Launch} {en : Env} {R : Room} {s : State} {m : MethodId} {args : Array Value} {below : List Frame} {meth : Method} {cd : Code} {H : Heap} {locs : List Loc} {cells slots : Nat} {Q : State → Prop} {D : va_G} {τ : Nat → ClassId} {ad : Nat → Nat} {A : Nat → Prop} {H0 : Heap} {M : lk_M}
theorem w_ND_moveFirstOf (X : lk_X pg s m args meth cd y_ND_moveFirstOf b_ND_moveFirstOf 4 (none) D τ) (hA : ∀ q, H0.size ≤ q → A q) (hR : 1 ≤ R.frames ∧ 24 ≤ R.locals) {a b tot : Nat} (ha : a < 25) (hb2 : b < 25) (hab : a ≠ b) (htot : tot ≤ 5) : ∀ (r j na nb : Nat) (M : lk_M), j + r = tot → r ≤ nb → na + r ≤ 5 → nb ≤ 5 → M 5 a = nI na → M 5 b = nI nb → ∀ (H : Heap) (locs : List Loc) (ls : Array Slot), lk_H D lk_cl A H0 (lk_w 88 ad (lk_ce τ ad M)) H locs → lv_has ls 4 [(3, .int (nI j)), (0, .ref (ad (5 + a))), (1, .ref (ad (5 + b))), (2, .int (nI tot))] → (∀ (H : Heap) (locs : List Loc) (ls : Array Slot), lk_H D lk_cl A H0 (lk_w 88 ad (lk_ce τ ad (lk_mvF a b r na nb M))) H locs → W pg l en R s m args below meth cd H locs 0 0 Q (F0 m 38 ls [])) → W pg l en R s m args below meth cd H locs 0 0 Q (F0 m 2 ls []) := by
  obtain ⟨hx, hb, -⟩ := id X
  intro r
  induction r with
  | zero =>
    intro j na nb M hj hrb hna hnb h5a h5b H locs ls h hl kk
    refine lv_iload_n hx hb d_ND_moveFirstOf_2 rfl (lv_at hl 0 rfl) ?_
    refine lv_iload_n hx hb d_ND_moveFirstOf_3 rfl (lv_at hl 3 rfl) ?_
    refine lk_cN_ge (tgt := 38) hx hb (by omega) (by omega) d_ND_moveFirstOf_4 (by decide) (fun h1 => ?_) (fun h1 => ?_)
    · exact kk H locs ls h
    · omega
  | succ r ih =>
    intro j na nb M hj hrb hna hnb h5a h5b H locs ls h hl kk
    refine lv_iload_n hx hb d_ND_moveFirstOf_2 rfl (lv_at hl 0 rfl) ?_
    refine lv_iload_n hx hb d_ND_moveFirstOf_3 rfl (lv_at hl 3 rfl) ?_
    refine lk_cN_ge (tgt := 38) hx hb (by omega) (by omega) d_ND_moveFirstOf_4 (by decide) (fun h1 => ?_) (fun h1 => ?_)
    · omega
    · refine lv_aload_n hx hb d_ND_moveFirstOf_7 rfl (lv_at hl 1 rfl) ?_
      refine lv_aload_n hx hb d_ND_moveFirstOf_8 rfl (lv_at hl 1 rfl) ?_
      refine ct_get X h (q0 := 5 + a) (by omega) (lk_ce_n (by omega)) rfl gl_ND 3 (by decide) rfl gf_ND_40 rfl d_ND_moveFirstOf_9 ?_
      refine lk_top (nI na) (h5a) ?_
      refine lv_aload_n hx hb d_ND_moveFirstOf_12 rfl (lv_at hl 2 rfl) ?_
      refine ct_get X h (q0 := 5 + b) (by omega) (lk_ce_n (by omega)) rfl gl_ND 1 (by decide) rfl gf_ND_9 rfl d_ND_moveFirstOf_13 ?_
      refine lv_iconst (v := nI 0) hx hb d_ND_moveFirstOf_16 (by decide) ?_
      refine nd_ald7 X h (q := b) (j := 0) (by omega) (by omega) d_ND_moveFirstOf_17 ?_
      refine lv_aload_n hx hb d_ND_moveFirstOf_18 rfl (lv_at hl 2 rfl) ?_
      refine ct_get X h (q0 := 5 + b) (by omega) (lk_ce_n (by omega)) rfl gl_ND 2 (by decide) rfl gf_ND_15 rfl d_ND_moveFirstOf_19 ?_
      refine lv_iconst (v := nI 0) hx hb d_ND_moveFirstOf_22 (by decide) ?_
      refine nd_ald8 X h (q := b) (j := 0) (by omega) (by omega) d_ND_moveFirstOf_23 ?_
      refine lk_gov (lk_runV (As := [.int (nI na), .int (M 7 (5 * b + 0)), .int (M 8 (5 * b + 0))]) (C := R_ND) X h (c_ND_insert l D τ ad M a na na ha h5a (by omega) (by omega) _ _) ⟨gc_ND_insert, gm_ND_51, gn_ND, gd_ND_insert, hR.1, Nat.le_trans (by decide) hR.2⟩ gi_ND_insert gs_ND_insert ⟨5 + a, 1, _, _, _, by rw [lk_w_get (by omega), lk_ce_n (by omega)], rfl⟩ rfl hl.1 (Nat.le_of_ble_eq_true rfl) d_ND_moveFirstOf_24 ⟨Nat.zero_le _, Nat.zero_le _⟩) h hA (fun σ24 H locs hk9 h => ?_)
      rw [hk9] at h
      refine lv_aload_n hx hb d_ND_moveFirstOf_27 rfl (lv_at hl 2 rfl) ?_
      refine lv_iconst (v := nI 0) hx hb d_ND_moveFirstOf_28 (by decide) ?_
      refine lk_gov (lk_runV (As := [.int (nI 0)]) (C := R_ND) X h (c_ND_delete l D τ ad _ b 0 nb hb2 (lk_ins_5.trans ((if_neg (Ne.symm hab)).trans h5b)) (by omega) (by omega)) ⟨gc_ND_delete, gm_ND_62, gn_ND, gd_ND_delete, hR.1, Nat.le_trans (by decide) hR.2⟩ gi_ND_delete gs_ND_delete ⟨5 + b, 1, _, _, _, by rw [lk_w_get (by omega), lk_ce_n (by omega)], rfl⟩ rfl hl.1 (Nat.le_of_ble_eq_true rfl) d_ND_moveFirstOf_29 ⟨Nat.zero_le _, Nat.zero_le _⟩) h hA (fun σ29 H locs hk9 h => ?_)
      rw [hk9] at h
      rw [Nat.add_zero] at h
      refine lv_iinc (k := 0) (v := nI (j + 1)) hx hb d_ND_moveFirstOf_32 hl rfl (nI_1 _) (by decide) rfl (fun ls hl => ?_)
      have hl : lv_has ls 4 [(3, .int (nI (j + 1))), (0, .ref (ad (5 + a))), (1, .ref (ad (5 + b))), (2, .int (nI tot))] := hl
      refine lv_goto (tgt := 2) hx hb d_ND_moveFirstOf_35 (by decide) ?_
      exact ih (j + 1) (na + 1) (nb - 1) _ (by omega) (by omega) (by omega) (by omega) (by rw [lk_del_5, if_neg hab, lk_ins_5, if_pos rfl]) (by rw [lk_del_5, if_pos rfl]) H locs ls h hl kk
end
set_option maxRecDepth 20000 in
theorem c_ND_moveFirstOf (l : Launch) (D : va_G) (τ : Nat → ClassId) (ad : Nat → Nat) (M : lk_M) (a b na nb r : Nat) (ha : a < 25) (hb2 : b < 25) (hab : a ≠ b) (h5a : M 5 a = nI na) (h5b : M 5 b = nI nb) (hr : r ≤ nb) (hna : na + r ≤ 5) (hnb : nb ≤ 5) : lk_Cv l D τ 88 ad (lk_ce τ ad) y_ND_moveFirstOf b_ND_moveFirstOf 4 1 24 [.ref (ad (5 + a)), .ref (ad (5 + b)), .int (nI r)] M (fun M1 => M1 = lk_mvF a b r na nb M) := by
  refine lk_openv (by decide +kernel) (Nat.le_of_ble_eq_true rfl) ?_
  intro pg en s m args below meth cd ls A X h hA hl
  obtain ⟨hx, hb, -⟩ := id X
  have hl : lv_has ls 4 [(0, .ref (ad (5 + a))), (1, .ref (ad (5 + b))), (2, .int (nI r))] := hl
  refine lv_iconst (v := nI 0) hx hb d_ND_moveFirstOf_0 (by decide) ?_
  refine lv_istore_n hx hb d_ND_moveFirstOf_1 rfl hl (by decide) rfl (fun ls hl => ?_)
  have hl : lv_has ls 4 [(3, .int (nI 0)), (0, .ref (ad (5 + a))), (1, .ref (ad (5 + b))), (2, .int (nI r))] := hl
  refine w_ND_moveFirstOf X hA (by decide) ha hb2 hab (by omega) r 0 na nb M (by omega) hr hna hnb h5a h5b _ _ ls h hl (fun H locs ls h => ?_)
  exact lk_retv X h d_ND_moveFirstOf_38 (rfl)
set_option maxRecDepth 20000 in
theorem c_ND_moveFirstOf_neg (l : Launch) (D : va_G) (τ : Nat → ClassId) (ad : Nat → Nat) (M : lk_M) (a b : Nat) (ha : a < 25) (hb2 : b < 25) (v : Int32) (hv : v < 0) : lk_Cv l D τ 88 ad (lk_ce τ ad) y_ND_moveFirstOf b_ND_moveFirstOf 4 1 24 [.ref (ad (5 + a)), .ref (ad (5 + b)), .int v] M (fun M1 => M1 = M) := by
  refine lk_openv (by decide +kernel) (Nat.le_of_ble_eq_true rfl) ?_
  intro pg en s m args below meth cd ls A X h hA hl
  obtain ⟨hx, hb, -⟩ := id X
  have hl : lv_has ls 4 [(0, .ref (ad (5 + a))), (1, .ref (ad (5 + b))), (2, .int v)] := hl
  refine lv_iconst (v := 0) hx hb d_ND_moveFirstOf_0 (by decide) ?_
  refine lv_istore_n hx hb d_ND_moveFirstOf_1 rfl hl (by decide) rfl (fun ls hl => ?_)
  have hl : lv_has ls 4 [(3, .int 0), (0, .ref (ad (5 + a))), (1, .ref (ad (5 + b))), (2, .int v)] := hl
  refine lv_iload_n hx hb d_ND_moveFirstOf_2 rfl (lv_at hl 0 rfl) ?_
  refine lv_iload_n hx hb d_ND_moveFirstOf_3 rfl (lv_at hl 3 rfl) ?_
  refine lv_icmp_ge (tgt := 38) hx hb d_ND_moveFirstOf_4 (by decide) (fun h1 => ?_) (fun h1 => ?_)
  · exact lk_retv X h d_ND_moveFirstOf_38 (rfl)
  · exact absurd (Int32.le_of_lt hv) h1
section
variable {pg : Program} {l : Launch} {en : Env} {R : Room} {s : State} {m : MethodId} {args : Array Value} {below : List Frame} {meth : Method} {cd : Code} {H : Heap} {locs : List Loc} {cells slots : Nat} {Q : State → Prop} {D : va_G} {τ : Nat → ClassId} {ad : Nat → Nat} {A : Nat → Prop} {H0 : Heap} {M : lk_M}
theorem w_ND_moveLastTo (X : lk_X pg s m args meth cd y_ND_moveLastTo b_ND_moveLastTo 4 (none) D τ) (hA : ∀ q, H0.size ≤ q → A q) (hR : 1 ≤ R.frames ∧ 24 ≤ R.locals) {a b tot : Nat} (ha : a < 25) (hb2 : b < 25) (hab : a ≠ b) (htot : tot ≤ 5) : ∀ (r j na nb : Nat) (M : lk_M), j + r = tot → r ≤ na → nb + r ≤ 5 → na ≤ 5 → M 5 a = nI na → M 5 b = nI nb → ∀ (H : Heap) (locs : List Loc) (ls : Array Slot), lk_H D lk_cl A H0 (lk_w 88 ad (lk_ce τ ad M)) H locs → lv_has ls 4 [(3, .int (nI j)), (0, .ref (ad (5 + a))), (1, .ref (ad (5 + b))), (2, .int (nI tot))] → (∀ (H : Heap) (locs : List Loc) (ls : Array Slot), lk_H D lk_cl A H0 (lk_w 88 ad (lk_ce τ ad (lk_mvL a b r na nb M))) H locs → W pg l en R s m args below meth cd H locs 0 0 Q (F0 m 57 ls [])) → W pg l en R s m args below meth cd H locs 0 0 Q (F0 m 2 ls []) := by
  obtain ⟨hx, hb, -⟩ := id X
  intro r
  induction r with
  | zero =>
    intro j na nb M hj hrb hna hnb h5a h5b H locs ls h hl kk
    refine lv_iload_n hx hb d_ND_moveLastTo_2 rfl (lv_at hl 0 rfl) ?_
    refine lv_iload_n hx hb d_ND_moveLastTo_3 rfl (lv_at hl 3 rfl) ?_
    refine lk_cN_ge (tgt := 57) hx hb (by omega) (by omega) d_ND_moveLastTo_4 (by decide) (fun h1 => ?_) (fun h1 => ?_)
    · exact kk H locs ls h
    · omega
  | succ r ih =>
    intro j na nb M hj hrb hna hnb h5a h5b H locs ls h hl kk
    have ep : 5 * a + (na - 1) = 5 * a + na - 1 := by omega
    refine lv_iload_n hx hb d_ND_moveLastTo_2 rfl (lv_at hl 0 rfl) ?_
    refine lv_iload_n hx hb d_ND_moveLastTo_3 rfl (lv_at hl 3 rfl) ?_
    refine lk_cN_ge (tgt := 57) hx hb (by omega) (by omega) d_ND_moveLastTo_4 (by decide) (fun h1 => ?_) (fun h1 => ?_)
    · omega
    · refine lv_aload_n hx hb d_ND_moveLastTo_7 rfl (lv_at hl 1 rfl) ?_
      refine ct_get X h (q0 := 5 + a) (by omega) (lk_ce_n (by omega)) rfl gl_ND 3 (by decide) rfl gf_ND_40 rfl d_ND_moveLastTo_8 ?_
      refine lk_top (nI na) (h5a) ?_
      refine lv_if_le (tgt := 57) hx hb d_ND_moveLastTo_11 (by decide) (fun h2 => ?_) (fun h2 => ?_)
      · exact absurd h2 (nI_nle (by omega) (by omega))
      · refine lv_aload_n hx hb d_ND_moveLastTo_14 rfl (lv_at hl 2 rfl) ?_
        refine lv_iconst (v := nI 0) hx hb d_ND_moveLastTo_15 (by decide) ?_
        refine lv_aload_n hx hb d_ND_moveLastTo_16 rfl (lv_at hl 1 rfl) ?_
        refine ct_get X h (q0 := 5 + a) (by omega) (lk_ce_n (by omega)) rfl gl_ND 1 (by decide) rfl gf_ND_9 rfl d_ND_moveLastTo_17 ?_
        refine lv_aload_n hx hb d_ND_moveLastTo_20 rfl (lv_at hl 1 rfl) ?_
        refine ct_get X h (q0 := 5 + a) (by omega) (lk_ce_n (by omega)) rfl gl_ND 3 (by decide) rfl gf_ND_40 rfl d_ND_moveLastTo_21 ?_
        refine lk_top (nI na) (h5a) ?_
        refine lv_iconst (v := nI 1) hx hb d_ND_moveLastTo_24 (by decide) ?_
        refine lk_isubN hx hb (by omega) d_ND_moveLastTo_25 ?_
        refine nd_ald7 X h (q := a) (j := na - 1) (by omega) (by omega) d_ND_moveLastTo_26 ?_
        refine lv_aload_n hx hb d_ND_moveLastTo_27 rfl (lv_at hl 1 rfl) ?_
        refine ct_get X h (q0 := 5 + a) (by omega) (lk_ce_n (by omega)) rfl gl_ND 2 (by decide) rfl gf_ND_15 rfl d_ND_moveLastTo_28 ?_
        refine lv_aload_n hx hb d_ND_moveLastTo_31 rfl (lv_at hl 1 rfl) ?_
        refine ct_get X h (q0 := 5 + a) (by omega) (lk_ce_n (by omega)) rfl gl_ND 3 (by decide) rfl gf_ND_40 rfl d_ND_moveLastTo_32 ?_
        refine lk_top (nI na) (h5a) ?_
        refine lv_iconst (v := nI 1) hx hb d_ND_moveLastTo_35 (by decide) ?_
        refine lk_isubN hx hb (by omega) d_ND_moveLastTo_36 ?_
        refine nd_ald8 X h (q := a) (j := na - 1) (by omega) (by omega) d_ND_moveLastTo_37 ?_
        refine lk_gov (lk_runV (As := [.int (nI 0), .int (M 7 (5 * a + (na - 1))), .int (M 8 (5 * a + (na - 1)))]) (C := R_ND) X h (c_ND_insert l D τ ad M b 0 nb hb2 h5b (by omega) (by omega) _ _) ⟨gc_ND_insert, gm_ND_51, gn_ND, gd_ND_insert, hR.1, Nat.le_trans (by decide) hR.2⟩ gi_ND_insert gs_ND_insert ⟨5 + b, 1, _, _, _, by rw [lk_w_get (by omega), lk_ce_n (by omega)], rfl⟩ rfl hl.1 (Nat.le_of_ble_eq_true rfl) d_ND_moveLastTo_38 ⟨Nat.zero_le _, Nat.zero_le _⟩) h hA (fun σ38 H locs hk9 h => ?_)
        rw [hk9] at h
        refine lv_aload_n hx hb d_ND_moveLastTo_41 rfl (lv_at hl 1 rfl) ?_
        refine lv_dup hx hb d_ND_moveLastTo_42 rfl ?_
        refine ct_get X h (q0 := 5 + a) (by omega) (lk_ce_n (by omega)) rfl gl_ND 3 (by decide) rfl gf_ND_40 rfl d_ND_moveLastTo_43 ?_
        refine lk_top (nI na) (lk_ins_5.trans ((if_neg hab).trans h5a)) ?_
        refine lv_iconst (v := nI 1) hx hb d_ND_moveLastTo_46 (by decide) ?_
        refine lk_isubN hx hb (by omega) d_ND_moveLastTo_47 ?_
        refine nd_put3 X h (q := a) (by omega) gf_ND_40 d_ND_moveLastTo_48 (fun H locs h => ?_)
        refine lv_iinc (k := 0) (v := nI (j + 1)) hx hb d_ND_moveLastTo_51 hl rfl (nI_1 _) (by decide) rfl (fun ls hl => ?_)
        have hl : lv_has ls 4 [(3, .int (nI (j + 1))), (0, .ref (ad (5 + a))), (1, .ref (ad (5 + b))), (2, .int (nI tot))] := hl
        refine lv_goto (tgt := 2) hx hb d_ND_moveLastTo_54 (by decide) ?_
        rw [ep] at h
        exact ih (j + 1) (na - 1) (nb + 1) _ (by omega) (by omega) (by omega) (by omega) lk_st_s (by rw [lk_st_p (Ne.symm hab), lk_ins_5, if_pos rfl]) H locs ls h hl kk
end
set_option maxRecDepth 20000 in
theorem c_ND_moveLastTo (l : Launch) (D : va_G) (τ : Nat → ClassId) (ad : Nat → Nat) (M : lk_M) (a b na nb r : Nat) (ha : a < 25) (hb2 : b < 25) (hab : a ≠ b) (h5a : M 5 a = nI na) (h5b : M 5 b = nI nb) (hr : r ≤ na) (hnb : nb + r ≤ 5) (hna : na ≤ 5) : lk_Cv l D τ 88 ad (lk_ce τ ad) y_ND_moveLastTo b_ND_moveLastTo 4 1 24 [.ref (ad (5 + a)), .ref (ad (5 + b)), .int (nI r)] M (fun M1 => M1 = lk_mvL a b r na nb M) := by
  refine lk_openv (by decide +kernel) (Nat.le_of_ble_eq_true rfl) ?_
  intro pg en s m args below meth cd ls A X h hA hl
  obtain ⟨hx, hb, -⟩ := id X
  have hl : lv_has ls 4 [(0, .ref (ad (5 + a))), (1, .ref (ad (5 + b))), (2, .int (nI r))] := hl
  refine lv_iconst (v := nI 0) hx hb d_ND_moveLastTo_0 (by decide) ?_
  refine lv_istore_n hx hb d_ND_moveLastTo_1 rfl hl (by decide) rfl (fun ls hl => ?_)
  have hl : lv_has ls 4 [(3, .int (nI 0)), (0, .ref (ad (5 + a))), (1, .ref (ad (5 + b))), (2, .int (nI r))] := hl
  refine w_ND_moveLastTo X hA (by decide) ha hb2 hab (by omega) r 0 na nb M (by omega) hr hnb hna h5a h5b _ _ ls h hl (fun H locs ls h => ?_)
  exact lk_retv X h d_ND_moveLastTo_57 (rfl)
def cc_take (M : lk_M) (a b na nb : Nat) : lk_M := lk_st (lk_st (lk_mvF a b nb na nb M) 3 a (M 3 b)) 4 a (M 4 b)
set_option maxRecDepth 20000 in
theorem c_ND_takeAllOf (l : Launch) (D : va_G) (τ : Nat → ClassId) (ad : Nat → Nat) (M : lk_M) (a b na nb : Nat) (ha : a < 25) (hb2 : b < 25) (hab : a ≠ b) (h5a : M 5 a = nI na) (h5b : M 5 b = nI nb) (hs : na + nb ≤ 5) : lk_Cv l D τ 88 ad (lk_ce τ ad) y_ND_takeAllOf b_ND_takeAllOf 2 2 47 [.ref (ad (5 + a)), .ref (ad (5 + b))] M (fun M1 => M1 = cc_take M a b na nb) := by
  refine lk_openv (by decide +kernel) (Nat.le_of_ble_eq_true rfl) ?_
  intro pg en s m args below meth cd ls A X h hA hl
  obtain ⟨hx, hb, -⟩ := id X
  have hl : lv_has ls 2 [(0, .ref (ad (5 + a))), (1, .ref (ad (5 + b)))] := hl
  refine lv_aload_n hx hb d_ND_takeAllOf_0 rfl (lv_at hl 0 rfl) ?_
  refine lv_aload_n hx hb d_ND_takeAllOf_1 rfl (lv_at hl 1 rfl) ?_
  refine lv_aload_n hx hb d_ND_takeAllOf_2 rfl (lv_at hl 1 rfl) ?_
  refine ct_get X h (q0 := 5 + b) (by omega) (lk_ce_n (by omega)) rfl gl_ND 3 (by decide) rfl gf_ND_40 rfl d_ND_takeAllOf_3 ?_
  refine lk_top (nI nb) (h5b) ?_
  refine lk_gov (lk_runV (As := [.ref (ad (5 + b)), .int (nI nb)]) (C := R_ND) X h (c_ND_moveFirstOf l D τ ad M a b na nb nb ha hb2 hab h5a h5b (Nat.le_refl _) hs (by omega)) ⟨gc_ND_moveFirstOf, gm_ND_55, gn_ND, gd_ND_moveFirstOf, by decide, by decide⟩ gi_ND_moveFirstOf gs_ND_moveFirstOf ⟨5 + a, 1, _, _, _, by rw [lk_w_get (by omega), lk_ce_n (by omega)], rfl⟩ rfl hl.1 (Nat.le_of_ble_eq_true rfl) d_ND_takeAllOf_6 ⟨Nat.zero_le _, Nat.zero_le _⟩) h hA (fun σ6 H locs hk9 h => ?_)
  rw [hk9] at h
  refine lv_aload_n hx hb d_ND_takeAllOf_9 rfl (lv_at hl 0 rfl) ?_
  refine lv_aload_n hx hb d_ND_takeAllOf_10 rfl (lv_at hl 1 rfl) ?_
  refine ct_get X h (q0 := 5 + b) (by omega) (lk_ce_n (by omega)) rfl gl_ND 7 (by decide) rfl gf_ND_37 rfl d_ND_takeAllOf_11 ?_
  refine lk_top (M 3 b) (lk_mvF_f a b (by decide) (by decide) (by decide) _ _ _ _) ?_
  refine nd_put7 X h (q := a) (by omega) gf_ND_37 d_ND_takeAllOf_14 (fun H locs h => ?_)
  refine lv_aload_n hx hb d_ND_takeAllOf_17 rfl (lv_at hl 0 rfl) ?_
  refine lv_aload_n hx hb d_ND_takeAllOf_18 rfl (lv_at hl 1 rfl) ?_
  refine ct_get X h (q0 := 5 + b) (by omega) (lk_ce_n (by omega)) rfl gl_ND 8 (by decide) rfl gf_ND_22 rfl d_ND_takeAllOf_19 ?_
  refine lk_top (M 4 b) ((lk_st_f (by decide)).trans (lk_mvF_f a b (by decide) (by decide) (by decide) _ _ _ _)) ?_
  refine nd_put8 X h (q := a) (by omega) gf_ND_22 d_ND_takeAllOf_22 (fun H locs h => ?_)
  exact lk_retv X h d_ND_takeAllOf_25 (rfl)
set_option maxRecDepth 20000 in
theorem c_ND_shareWith (l : Launch) (D : va_G) (τ : Nat → ClassId) (ad : Nat → Nat) (M : lk_M) (a b na nb : Nat) (ha : a < 25) (hb2 : b < 25) (hab : a ≠ b) (h5a : M 5 a = nI na) (h5b : M 5 b = nI nb) (hna : na ≤ 4) (hnb : nb ≤ 4) (hpos : 0 < na + nb) : lk_Cv l D τ 88 ad (lk_ce τ ad) y_ND_shareWith b_ND_shareWith 3 2 47 [.ref (ad (5 + a)), .ref (ad (5 + b))] M (fun M1 => M1 = mm_bal M a b na nb) := by
  refine lk_openv (by decide +kernel) (Nat.le_of_ble_eq_true rfl) ?_
  intro pg en s m args below meth cd ls A X h hA hl
  obtain ⟨hx, hb, -⟩ := id X
  have hl : lv_has ls 3 [(0, .ref (ad (5 + a))), (1, .ref (ad (5 + b)))] := hl
  refine lv_aload_n hx hb d_ND_shareWith_0 rfl (lv_at hl 0 rfl) ?_
  refine ct_get X h (q0 := 5 + a) (by omega) (lk_ce_n (by omega)) rfl gl_ND 3 (by decide) rfl gf_ND_40 rfl d_ND_shareWith_1 ?_
  refine lk_top (nI na) (h5a) ?_
  refine lv_aload_n hx hb d_ND_shareWith_4 rfl (lv_at hl 1 rfl) ?_
  refine ct_get X h (q0 := 5 + b) (by omega) (lk_ce_n (by omega)) rfl gl_ND 3 (by decide) rfl gf_ND_40 rfl d_ND_shareWith_5 ?_
  refine lk_top (nI nb) (h5b) ?_
  refine lk_iaddN hx hb d_ND_shareWith_8 ?_
  refine lv_iconst (v := nI 1) hx hb d_ND_shareWith_9 (by decide) ?_
  refine lk_iaddN hx hb d_ND_shareWith_10 ?_
  refine lv_iconst (v := nI 2) hx hb d_ND_shareWith_11 (by decide) ?_
  refine lk_idivN hx hb (by omega) (by omega) (by omega) d_ND_shareWith_12 ?_
  refine lv_istore_n hx hb d_ND_shareWith_13 rfl hl (by decide) rfl (fun ls hl => ?_)
  have hl : lv_has ls 3 [(2, .int (nI ((na + nb + 1) / 2))), (0, .ref (ad (5 + a))), (1, .ref (ad (5 + b)))] := hl
  have hl2 : (na + nb + 1) / 2 ≤ na + nb := by omega
  have hl3 : 1 ≤ (na + nb + 1) / 2 := by omega
  have hl4 : (na + nb + 1) / 2 ≤ 4 := by omega
  have hl5 : na - (na + nb + 1) / 2 + nb ≤ 4 := by omega
  have hl6 : na + nb ≤ 2 * ((na + nb + 1) / 2) := by omega
  generalize hhf : (na + nb + 1) / 2 = half at *
  by_cases hc : na ≤ half
  · obtain ⟨q1, q2⟩ := lk_mvF_5 a b hab (half - na) na nb M (by omega) h5a h5b
    refine lv_aload_n hx hb d_ND_shareWith_14 rfl (lv_at hl 1 rfl) ?_
    refine lv_aload_n hx hb d_ND_shareWith_15 rfl (lv_at hl 2 rfl) ?_
    refine lv_iload_n hx hb d_ND_shareWith_16 rfl (lv_at hl 0 rfl) ?_
    refine lv_aload_n hx hb d_ND_shareWith_17 rfl (lv_at hl 1 rfl) ?_
    refine ct_get X h (q0 := 5 + a) (by omega) (lk_ce_n (by omega)) rfl gl_ND 3 (by decide) rfl gf_ND_40 rfl d_ND_shareWith_18 ?_
    refine lk_top (nI na) (h5a) ?_
    refine lk_isubN hx hb (by omega) d_ND_shareWith_21 ?_
    refine lk_gov (lk_runV (As := [.ref (ad (5 + b)), .int (nI (half - na))]) (C := R_ND) X h (c_ND_moveFirstOf l D τ ad M a b na nb (half - na) ha hb2 hab h5a h5b (by omega) (by omega) (by omega)) ⟨gc_ND_moveFirstOf, gm_ND_55, gn_ND, gd_ND_moveFirstOf, by decide, by decide⟩ gi_ND_moveFirstOf gs_ND_moveFirstOf ⟨5 + a, 1, _, _, _, by rw [lk_w_get (by omega), lk_ce_n (by omega)], rfl⟩ rfl hl.1 (Nat.le_of_ble_eq_true rfl) d_ND_shareWith_22 ⟨Nat.zero_le _, Nat.zero_le _⟩) h hA (fun σ22 H locs hk9 h => ?_)
    rw [hk9] at h
    refine lv_aload_n hx hb d_ND_shareWith_25 rfl (lv_at hl 1 rfl) ?_
    refine lv_aload_n hx hb d_ND_shareWith_26 rfl (lv_at hl 2 rfl) ?_
    refine lv_aload_n hx hb d_ND_shareWith_27 rfl (lv_at hl 1 rfl) ?_
    refine ct_get X h (q0 := 5 + a) (by omega) (lk_ce_n (by omega)) rfl gl_ND 3 (by decide) rfl gf_ND_40 rfl d_ND_shareWith_28 ?_
    refine lk_top (nI (na + (half - na))) (q1) ?_
    refine lv_iload_n hx hb d_ND_shareWith_31 rfl (lv_at hl 0 rfl) ?_
    refine lk_isubN hx hb (by omega) d_ND_shareWith_32 ?_
    refine lk_gov (lk_runV (As := [.ref (ad (5 + b)), .int (nI (na + (half - na) - half))]) (C := R_ND) X h (c_ND_moveLastTo l D τ ad _ a b (na + (half - na)) (nb - (half - na)) (na + (half - na) - half) ha hb2 hab q1 q2 (by omega) (by omega) (by omega)) ⟨gc_ND_moveLastTo, gm_ND_59, gn_ND, gd_ND_moveLastTo, by decide, by decide⟩ gi_ND_moveLastTo gs_ND_moveLastTo ⟨5 + a, 1, _, _, _, by rw [lk_w_get (by omega), lk_ce_n (by omega)], rfl⟩ rfl hl.1 (Nat.le_of_ble_eq_true rfl) d_ND_shareWith_33 ⟨Nat.zero_le _, Nat.zero_le _⟩) h hA (fun σ33 H locs hk9 h => ?_)
    rw [hk9] at h
    have es : lk_shr M a b na nb = lk_mvL a b (na + (half - na) - half) (na + (half - na)) (nb - (half - na)) (lk_mvF a b (half - na) na nb M) := by unfold lk_shr; rw [hhf, show na - half = 0 by omega, show na + (half - na) - half = 0 by omega]
    rw [← es] at h
    have h5 : lk_shr M a b na nb 5 a = nI half := by rw [es]; rw [show na + (half - na) - half = 0 by omega]; exact q1.trans (by rw [show na + (half - na) = half by omega])
    refine lv_aload_n hx hb d_ND_shareWith_36 rfl (lv_at hl 1 rfl) ?_
    refine ct_get X h (q0 := 5 + a) (by omega) (lk_ce_n (by omega)) rfl gl_ND 3 (by decide) rfl gf_ND_40 rfl d_ND_shareWith_37 ?_
    refine lk_top (nI half) (h5) ?_
    refine lv_if_le (tgt := 66) hx hb d_ND_shareWith_40 (by decide) (fun h3 => ?_) (fun h3 => ?_)
    · exact absurd h3 (nI_nle (by omega) (by omega))
    · refine lv_aload_n hx hb d_ND_shareWith_43 rfl (lv_at hl 1 rfl) ?_
      refine lv_aload_n hx hb d_ND_shareWith_44 rfl (lv_at hl 1 rfl) ?_
      refine ct_get X h (q0 := 5 + a) (by omega) (lk_ce_n (by omega)) rfl gl_ND 1 (by decide) rfl gf_ND_9 rfl d_ND_shareWith_45 ?_
      refine lv_aload_n hx hb d_ND_shareWith_48 rfl (lv_at hl 1 rfl) ?_
      refine ct_get X h (q0 := 5 + a) (by omega) (lk_ce_n (by omega)) rfl gl_ND 3 (by decide) rfl gf_ND_40 rfl d_ND_shareWith_49 ?_
      refine lk_top (nI half) (h5) ?_
      refine lv_iconst (v := nI 1) hx hb d_ND_shareWith_52 (by decide) ?_
      refine lk_isubN hx hb (by omega) d_ND_shareWith_53 ?_
      refine nd_ald7 X h (q := a) (j := half - 1) (by omega) (by omega) d_ND_shareWith_54 ?_
      refine nd_put7 X h (q := a) (by omega) gf_ND_37 d_ND_shareWith_55 (fun H locs h => ?_)
      refine lv_aload_n hx hb d_ND_shareWith_58 rfl (lv_at hl 2 rfl) ?_
      refine lv_aload_n hx hb d_ND_shareWith_59 rfl (lv_at hl 1 rfl) ?_
      refine ct_get X h (q0 := 5 + a) (by omega) (lk_ce_n (by omega)) rfl gl_ND 7 (by decide) rfl gf_ND_37 rfl d_ND_shareWith_60 ?_
      refine lk_top ((lk_shr M a b na nb) 7 (5 * a + (half - 1))) (lk_st_s) ?_
      refine nd_put6 X h (q := b) (by omega) gf_ND_34 d_ND_shareWith_63 (fun H locs h => ?_)
      exact lk_retv X h d_ND_shareWith_66 (by unfold mm_bal; rw [hhf, show 5 * a + half - 1 = 5 * a + (half - 1) by omega])
  · have hneg : nI half - nI na < 0 := pk_sneg (by omega) (by omega)
    refine lv_aload_n hx hb d_ND_shareWith_14 rfl (lv_at hl 1 rfl) ?_
    refine lv_aload_n hx hb d_ND_shareWith_15 rfl (lv_at hl 2 rfl) ?_
    refine lv_iload_n hx hb d_ND_shareWith_16 rfl (lv_at hl 0 rfl) ?_
    refine lv_aload_n hx hb d_ND_shareWith_17 rfl (lv_at hl 1 rfl) ?_
    refine ct_get X h (q0 := 5 + a) (by omega) (lk_ce_n (by omega)) rfl gl_ND 3 (by decide) rfl gf_ND_40 rfl d_ND_shareWith_18 ?_
    refine lk_top (nI na) (h5a) ?_
    refine lv_isub hx hb d_ND_shareWith_21 ?_
    refine lk_gov (lk_runV (As := [.ref (ad (5 + b)), .int (nI half - nI na)]) (C := R_ND) X h (c_ND_moveFirstOf_neg l D τ ad M a b ha hb2 _ hneg) ⟨gc_ND_moveFirstOf, gm_ND_55, gn_ND, gd_ND_moveFirstOf, by decide, by decide⟩ gi_ND_moveFirstOf gs_ND_moveFirstOf ⟨5 + a, 1, _, _, _, by rw [lk_w_get (by omega), lk_ce_n (by omega)], rfl⟩ rfl hl.1 (Nat.le_of_ble_eq_true rfl) d_ND_shareWith_22 ⟨Nat.zero_le _, Nat.zero_le _⟩) h hA (fun σ22 H locs hk9 h => ?_)
    rw [hk9] at h
    refine lv_aload_n hx hb d_ND_shareWith_25 rfl (lv_at hl 1 rfl) ?_
    refine lv_aload_n hx hb d_ND_shareWith_26 rfl (lv_at hl 2 rfl) ?_
    refine lv_aload_n hx hb d_ND_shareWith_27 rfl (lv_at hl 1 rfl) ?_
    refine ct_get X h (q0 := 5 + a) (by omega) (lk_ce_n (by omega)) rfl gl_ND 3 (by decide) rfl gf_ND_40 rfl d_ND_shareWith_28 ?_
    refine lk_top (nI na) (h5a) ?_
    refine lv_iload_n hx hb d_ND_shareWith_31 rfl (lv_at hl 0 rfl) ?_
    refine lk_isubN hx hb (by omega) d_ND_shareWith_32 ?_
    refine lk_gov (lk_runV (As := [.ref (ad (5 + b)), .int (nI (na - half))]) (C := R_ND) X h (c_ND_moveLastTo l D τ ad M a b na nb (na - half) ha hb2 hab h5a h5b (by omega) (by omega) (by omega)) ⟨gc_ND_moveLastTo, gm_ND_59, gn_ND, gd_ND_moveLastTo, by decide, by decide⟩ gi_ND_moveLastTo gs_ND_moveLastTo ⟨5 + a, 1, _, _, _, by rw [lk_w_get (by omega), lk_ce_n (by omega)], rfl⟩ rfl hl.1 (Nat.le_of_ble_eq_true rfl) d_ND_shareWith_33 ⟨Nat.zero_le _, Nat.zero_le _⟩) h hA (fun σ33 H locs hk9 h => ?_)
    rw [hk9] at h
    have es : lk_shr M a b na nb = lk_mvL a b (na - half) na nb M := by unfold lk_shr; rw [hhf, show half - na = 0 by omega]; rfl
    rw [← es] at h
    have h5 : lk_shr M a b na nb 5 a = nI half := by rw [es]; exact (lk_mvL_5 a b hab (na - half) na nb M (by omega) h5a h5b).1.trans (by rw [show na - (na - half) = half by omega])
    refine lv_aload_n hx hb d_ND_shareWith_36 rfl (lv_at hl 1 rfl) ?_
    refine ct_get X h (q0 := 5 + a) (by omega) (lk_ce_n (by omega)) rfl gl_ND 3 (by decide) rfl gf_ND_40 rfl d_ND_shareWith_37 ?_
    refine lk_top (nI half) (h5) ?_
    refine lv_if_le (tgt := 66) hx hb d_ND_shareWith_40 (by decide) (fun h3 => ?_) (fun h3 => ?_)
    · exact absurd h3 (nI_nle (by omega) (by omega))
    · refine lv_aload_n hx hb d_ND_shareWith_43 rfl (lv_at hl 1 rfl) ?_
      refine lv_aload_n hx hb d_ND_shareWith_44 rfl (lv_at hl 1 rfl) ?_
      refine ct_get X h (q0 := 5 + a) (by omega) (lk_ce_n (by omega)) rfl gl_ND 1 (by decide) rfl gf_ND_9 rfl d_ND_shareWith_45 ?_
      refine lv_aload_n hx hb d_ND_shareWith_48 rfl (lv_at hl 1 rfl) ?_
      refine ct_get X h (q0 := 5 + a) (by omega) (lk_ce_n (by omega)) rfl gl_ND 3 (by decide) rfl gf_ND_40 rfl d_ND_shareWith_49 ?_
      refine lk_top (nI half) (h5) ?_
      refine lv_iconst (v := nI 1) hx hb d_ND_shareWith_52 (by decide) ?_
      refine lk_isubN hx hb (by omega) d_ND_shareWith_53 ?_
      refine nd_ald7 X h (q := a) (j := half - 1) (by omega) (by omega) d_ND_shareWith_54 ?_
      refine nd_put7 X h (q := a) (by omega) gf_ND_37 d_ND_shareWith_55 (fun H locs h => ?_)
      refine lv_aload_n hx hb d_ND_shareWith_58 rfl (lv_at hl 2 rfl) ?_
      refine lv_aload_n hx hb d_ND_shareWith_59 rfl (lv_at hl 1 rfl) ?_
      refine ct_get X h (q0 := 5 + a) (by omega) (lk_ce_n (by omega)) rfl gl_ND 7 (by decide) rfl gf_ND_37 rfl d_ND_shareWith_60 ?_
      refine lk_top ((lk_shr M a b na nb) 7 (5 * a + (half - 1))) (lk_st_s) ?_
      refine nd_put6 X h (q := b) (by omega) gf_ND_34 d_ND_shareWith_63 (fun H locs h => ?_)
      exact lk_retv X h d_ND_shareWith_66 (by unfold mm_bal; rw [hhf, show 5 * a + half - 1 = 5 * a + (half - 1) by omega])
def cc_du (σ : lk_M) (q : Nat) (x : Int32) : lk_M := lk_st (lk_st σ 9 q x) 0 q (if x = 0 then 0 else 2)
def cc_an (σ : lk_M) (q t : Nat) : lk_M := if σ 0 q = 2 then cc_du σ q (σ 9 q &&& lk_off t) else σ
set_option maxRecDepth 20000 in
theorem c_ND_dieUntil (l : Launch) (D : va_G) (τ : Nat → ClassId) (ad : Nat → Nat) (M : lk_M) (q : Nat) (hq : q < 25) (x : Int32) : lk_Cv l D τ 88 ad (lk_ce τ ad) y_ND_dieUntil b_ND_dieUntil 2 0 0 [.ref (ad (5 + q)), .int x] M (fun M1 => M1 = cc_du M q x) := by
  refine lk_openv (by decide +kernel) (Nat.le_of_ble_eq_true rfl) ?_
  intro pg en s m args below meth cd ls A X h hA hl
  obtain ⟨hx, hb, -⟩ := id X
  have hl : lv_has ls 2 [(0, .ref (ad (5 + q))), (1, .int x)] := hl
  refine lv_aload_n hx hb d_ND_dieUntil_0 rfl (lv_at hl 0 rfl) ?_
  refine lv_iload_n hx hb d_ND_dieUntil_1 rfl (lv_at hl 1 rfl) ?_
  refine nd_put10 X h (q := q) (by omega) gf_ND_66 d_ND_dieUntil_2 (fun H locs h => ?_)
  refine lv_aload_n hx hb d_ND_dieUntil_5 rfl (lv_at hl 0 rfl) ?_
  refine lv_aload_n hx hb d_ND_dieUntil_6 rfl (lv_at hl 0 rfl) ?_
  refine ct_get X h (q0 := 5 + q) (by omega) (lk_ce_n (by omega)) rfl gl_ND 10 (by decide) rfl gf_ND_66 rfl d_ND_dieUntil_7 ?_
  refine lk_top x (lk_st_s) ?_
  refine lv_if_ne (tgt := 17) hx hb d_ND_dieUntil_10 (by decide) (fun h1 => ?_) (fun h1 => ?_)
  · refine lv_iconst (v := 2) hx hb d_ND_dieUntil_17 (by decide) ?_
    refine nd_put4 X h (q := q) (by omega) gf_ND_18 d_ND_dieUntil_18 (fun H locs h => ?_)
    exact lk_retv X h d_ND_dieUntil_21 (by rw [cc_du, if_neg h1])
  · refine lv_iconst (v := 0) hx hb d_ND_dieUntil_13 (by decide) ?_
    refine lv_goto (tgt := 18) hx hb d_ND_dieUntil_14 (by decide) ?_
    refine nd_put4 X h (q := q) (by omega) gf_ND_18 d_ND_dieUntil_18 (fun H locs h => ?_)
    exact lk_retv X h d_ND_dieUntil_21 (by rw [cc_du, if_pos h1])
set_option maxRecDepth 20000 in
theorem c_ND_awaitNoMore (l : Launch) (D : va_G) (τ : Nat → ClassId) (ad : Nat → Nat) (M : lk_M) (q t : Nat) (hq : q < 25) (ht : t < 4) : lk_Cv l D τ 88 ad (lk_ce τ ad) y_ND_awaitNoMore b_ND_awaitNoMore 2 1 21 [.ref (ad (5 + q)), .int (nI t)] M (fun M1 => M1 = cc_an M q t) := by
  refine lk_openv (by decide +kernel) (Nat.le_of_ble_eq_true rfl) ?_
  intro pg en s m args below meth cd ls A X h hA hl
  obtain ⟨hx, hb, -⟩ := id X
  have hl : lv_has ls 2 [(0, .ref (ad (5 + q))), (1, .int (nI t))] := hl
  refine lv_aload_n hx hb d_ND_awaitNoMore_0 rfl (lv_at hl 0 rfl) ?_
  refine ct_get X h (q0 := 5 + q) (by omega) (lk_ce_n (by omega)) rfl gl_ND 4 (by decide) rfl gf_ND_18 rfl d_ND_awaitNoMore_1 ?_
  refine lv_iconst (v := 2) hx hb d_ND_awaitNoMore_4 (by decide) ?_
  refine lv_icmp_ne (tgt := 22) hx hb d_ND_awaitNoMore_5 (by decide) (fun h1 => ?_) (fun h1 => ?_)
  · exact lk_retv X h d_ND_awaitNoMore_22 (by rw [cc_an, if_neg h1])
  · refine lv_aload_n hx hb d_ND_awaitNoMore_8 rfl (lv_at hl 0 rfl) ?_
    refine lv_aload_n hx hb d_ND_awaitNoMore_9 rfl (lv_at hl 0 rfl) ?_
    refine ct_get X h (q0 := 5 + q) (by omega) (lk_ce_n (by omega)) rfl gl_ND 10 (by decide) rfl gf_ND_66 rfl d_ND_awaitNoMore_10 ?_
    refine lv_iconst (v := 1) hx hb d_ND_awaitNoMore_13 (by decide) ?_
    refine lv_iload_n hx hb d_ND_awaitNoMore_14 rfl (lv_at hl 1 rfl) ?_
    refine lv_ishl hx hb d_ND_awaitNoMore_15 ?_
    refine lv_iconst (v := (-1)) hx hb d_ND_awaitNoMore_16 (by decide) ?_
    refine lv_ixor hx hb d_ND_awaitNoMore_17 ?_
    refine lv_iand hx hb d_ND_awaitNoMore_18 ?_
    refine lk_gov (lk_runV (As := [.int ((M 9 q) &&& ((1 <<< ((nI t) &&& 31)) ^^^ (-1)))]) (C := R_ND) X h (c_ND_dieUntil l D τ ad M q hq _) ⟨gc_ND_dieUntil, gm_ND_69, gn_ND, gd_ND_dieUntil, by decide, by decide⟩ gi_ND_dieUntil gs_ND_dieUntil ⟨5 + q, 1, _, _, _, by rw [lk_w_get (by omega), lk_ce_n (by omega)], rfl⟩ rfl hl.1 (Nat.le_of_ble_eq_true rfl) d_ND_awaitNoMore_19 ⟨Nat.zero_le _, Nat.zero_le _⟩) h hA (fun σ19 H locs hk9 h => ?_)
    rw [hk9] at h
    exact lk_retv X h d_ND_awaitNoMore_22 (by rw [cc_an, if_pos h1]; rfl)
theorem lk_ce_nop {τ : Nat → ClassId} {ad : Nat → Nat} {σ : lk_M} {t : Nat} : lk_w 88 ad (lk_ce τ ad (lk_nopL σ t 25)) = lk_w 88 ad (lk_ce τ ad (lk_nop σ t)) := by
  apply lk_w_congr
  intro j hj
  have e : ∀ f i, f ≠ 19 → lk_nopL σ t 25 f i = lk_nop σ t f i := fun f i hf => by unfold lk_nopL lk_nop; rw [lk_up_eq, lk_up_eq, if_neg hf, if_neg hf]
  have ef : ∀ f, f ≠ 19 → lk_nopL σ t 25 f = lk_nop σ t f := fun f hf => funext fun i => e f i hf
  rcases lk_ce_cases hj with rfl | rfl | rfl | rfl | rfl | ⟨p, hp, rfl⟩ | ⟨p, hp, rfl⟩ | ⟨p, hp, rfl⟩ | ⟨u, hu, rfl⟩ | ⟨u, hu, rfl⟩
  · rfl
  · rfl
  · rfl
  · rfl
  · rfl
  · rw [lk_ce_n hp, lk_ce_n hp]; rfl
  · rw [lk_ce_k hp, lk_ce_k hp, ef 7 (by decide)]
  · rw [lk_ce_s hp, lk_ce_s hp, ef 8 (by decide)]
  · rw [lk_ce_t hu, lk_ce_t hu]; rfl
  · rw [lk_ce_p hu, lk_ce_p hu]
    have : lk_t25 (lk_nopL σ t 25 19) u = lk_t25 (lk_nop σ t 19) u := by
      funext i
      unfold lk_t25 lk_nopL lk_nop
      rw [va_up_self, va_up_self]
      by_cases hi : i < 25
      · rw [if_pos hi, if_pos hi]
        by_cases hc : 32 * t ≤ 32 * u + i ∧ 32 * u + i < 32 * t + 25
        · rw [if_pos hc, if_pos (by omega)]
        · rw [if_neg hc, if_neg (by omega)]
      · rw [if_neg hi, if_neg hi]
    rw [this]
theorem lk_nop_srch (σ : lk_M) (t : Nat) (x : Int32) : lk_nop (lk_srch σ t x) t = lk_srch (lk_nop σ t) t x := by
  funext f i
  unfold lk_nop lk_srch
  simp only [lk_st_eq, lk_up_eq]
  by_cases h : f = 19
  · subst h; simp
  · simp [h]
section
variable {pg : Program} {l : Launch} {en : Env} {R : Room} {s : State} {m : MethodId} {args : Array Value} {below : List Frame} {meth : Method} {cd : Code} {H : Heap} {locs : List Loc} {cells slots : Nat} {Q : State → Prop} {D : va_G} {τ : Nat → ClassId} {ad : Nat → Nat} {A : Nat → Prop} {H0 : Heap} {M : lk_M}
theorem w_TA_searchAnew (X : lk_X pg s m args meth cd y_TA_searchAnew b_TA_searchAnew 3 (none) D τ) {t : Nat} {x : Int32} (ht : t < 4) : ∀ (r k : Nat), k + r = 25 → ∀ (H : Heap) (locs : List Loc) (ls : Array Slot), lk_H D lk_cl A H0 (lk_w 88 ad (lk_ce τ ad (lk_nopL M t k))) H locs → lv_has ls 3 [(2, .int (nI k)), (0, .ref (ad (80 + t))), (1, .int x)] → (∀ (H : Heap) (locs : List Loc) (ls : Array Slot), lk_H D lk_cl A H0 (lk_w 88 ad (lk_ce τ ad (lk_nopL M t 25))) H locs → W pg l en R s m args below meth cd H locs cells slots Q (F0 m 34 ls [])) → W pg l en R s m args below meth cd H locs cells slots Q (F0 m 12 ls []) := by
  obtain ⟨hx, hb, -⟩ := id X
  intro r
  induction r with
  | zero =>
    intro k hk H locs ls h hl kk
    have hk : k = 25 := by omega
    subst hk
    refine lv_iload_n hx hb d_TA_searchAnew_12 rfl (lv_at hl 0 rfl) ?_
    refine lv_aload_n hx hb d_TA_searchAnew_13 rfl (lv_at hl 1 rfl) ?_
    refine ct_get X h (q0 := 80 + t) (by omega) (lk_ce_t (by omega)) rfl gl_TA 1 (by decide) rfl gf_TA_9 rfl d_TA_searchAnew_14 ?_
    refine ct_alen X h (q0 := 84 + t) (by omega) (lk_ce_p (by omega)) d_TA_searchAnew_17 ?_
    refine lk_cN_ge (tgt := 34) hx hb (by omega) (by omega) d_TA_searchAnew_18 (by decide) (fun h1 => ?_) (fun h1 => ?_)
    · exact kk H locs ls h
    · omega
  | succ r ih =>
    intro k hk H locs ls h hl kk
    refine lv_iload_n hx hb d_TA_searchAnew_12 rfl (lv_at hl 0 rfl) ?_
    refine lv_aload_n hx hb d_TA_searchAnew_13 rfl (lv_at hl 1 rfl) ?_
    refine ct_get X h (q0 := 80 + t) (by omega) (lk_ce_t (by omega)) rfl gl_TA 1 (by decide) rfl gf_TA_9 rfl d_TA_searchAnew_14 ?_
    refine ct_alen X h (q0 := 84 + t) (by omega) (lk_ce_p (by omega)) d_TA_searchAnew_17 ?_
    refine lk_cN_ge (tgt := 34) hx hb (by omega) (by omega) d_TA_searchAnew_18 (by decide) (fun h1 => ?_) (fun h1 => ?_)
    · omega
    · refine lv_aload_n hx hb d_TA_searchAnew_21 rfl (lv_at hl 1 rfl) ?_
      refine ct_get X h (q0 := 80 + t) (by omega) (lk_ce_t (by omega)) rfl gl_TA 1 (by decide) rfl gf_TA_9 rfl d_TA_searchAnew_22 ?_
      refine lv_iload_n hx hb d_TA_searchAnew_25 rfl (lv_at hl 0 rfl) ?_
      refine lv_iconst (v := (-1)) hx hb d_TA_searchAnew_26 (by decide) ?_
      refine ta_ast X h (t := t) (j := k) (v := (-1)) (by omega) (by omega) d_TA_searchAnew_27 (fun H locs h => ?_)
      refine lv_iinc (k := 0) (v := nI (k + 1)) hx hb d_TA_searchAnew_28 hl rfl (nI_1 _) (by decide) rfl (fun ls hl => ?_)
      have hl : lv_has ls 3 [(2, .int (nI (k + 1))), (0, .ref (ad (80 + t))), (1, .int x)] := hl
      refine lv_goto (tgt := 12) hx hb d_TA_searchAnew_31 (by decide) ?_
      rw [lk_nopL_s] at h
      exact ih (k + 1) (by omega) H locs ls h hl kk
end
set_option maxRecDepth 20000 in
theorem c_TA_searchAnew (l : Launch) (D : va_G) (τ : Nat → ClassId) (ad : Nat → Nat) (M : lk_M) (t : Nat) (ht : t < 4) (x : Int32) : lk_Cv l D τ 88 ad (lk_ce τ ad) y_TA_searchAnew b_TA_searchAnew 3 0 0 [.ref (ad (80 + t)), .int x] M (fun M1 => M1 = lk_srch (lk_nop M t) t x) := by
  refine lk_openv (by decide +kernel) (Nat.le_of_ble_eq_true rfl) ?_
  intro pg en s m args below meth cd ls A X h hA hl
  obtain ⟨hx, hb, -⟩ := id X
  have hl : lv_has ls 3 [(0, .ref (ad (80 + t))), (1, .int x)] := hl
  refine lv_aload_n hx hb d_TA_searchAnew_0 rfl (lv_at hl 0 rfl) ?_
  refine lv_iconst (v := 0) hx hb d_TA_searchAnew_1 (by decide) ?_
  refine ta_put4 X h (t := t) (by omega) gf_TA_23 d_TA_searchAnew_2 (fun H locs h => ?_)
  refine lv_aload_n hx hb d_TA_searchAnew_5 rfl (lv_at hl 0 rfl) ?_
  refine lv_iload_n hx hb d_TA_searchAnew_6 rfl (lv_at hl 1 rfl) ?_
  refine ta_put5 X h (t := t) (by omega) gf_TA_26 d_TA_searchAnew_7 (fun H locs h => ?_)
  refine lv_iconst (v := nI 0) hx hb d_TA_searchAnew_10 (by decide) ?_
  refine lv_istore_n hx hb d_TA_searchAnew_11 rfl hl (by decide) rfl (fun ls hl => ?_)
  have hl : lv_has ls 3 [(2, .int (nI 0)), (0, .ref (ad (80 + t))), (1, .int x)] := hl
  refine w_TA_searchAnew (M := lk_srch M t x) X ht 25 0 (by omega) _ _ ls (by rw [lk_nopL_0]; exact h) hl (fun H locs ls h => ?_)
  rw [lk_ce_nop, lk_nop_srch] at h
  exact lk_retv X h d_TA_searchAnew_34 (rfl)
set_option maxRecDepth 20000 in
theorem c_TA_note (l : Launch) (D : va_G) (τ : Nat → ClassId) (ad : Nat → Nat) (M : lk_M) (t v : Nat) (ht : t < 4) (hv : v < 25) (x : Int32) : lk_Cv l D τ 88 ad (lk_ce τ ad) y_TA_note b_TA_note 3 0 0 [.ref (ad (80 + t)), .int (nI v), .int x] M (fun M1 => M1 = lk_st M 19 (32 * t + v) x) := by
  refine lk_openv (by decide +kernel) (Nat.le_of_ble_eq_true rfl) ?_
  intro pg en s m args below meth cd ls A X h hA hl
  obtain ⟨hx, hb, -⟩ := id X
  have hl : lv_has ls 3 [(0, .ref (ad (80 + t))), (1, .int (nI v)), (2, .int x)] := hl
  refine lv_iload_n hx hb d_TA_note_0 rfl (lv_at hl 1 rfl) ?_
  refine lv_if_lt (tgt := 20) hx hb d_TA_note_1 (by decide) (fun h1 => ?_) (fun h1 => ?_)
  · exact absurd h1 (nI_pos (by omega))
  · refine lv_iload_n hx hb d_TA_note_4 rfl (lv_at hl 1 rfl) ?_
    refine lv_aload_n hx hb d_TA_note_5 rfl (lv_at hl 0 rfl) ?_
    refine ct_get X h (q0 := 80 + t) (by omega) (lk_ce_t (by omega)) rfl gl_TA 1 (by decide) rfl gf_TA_9 rfl d_TA_note_6 ?_
    refine ct_alen X h (q0 := 84 + t) (by omega) (lk_ce_p (by omega)) d_TA_note_9 ?_
    refine lk_cN_ge (tgt := 20) hx hb (by omega) (by omega) d_TA_note_10 (by decide) (fun h2 => ?_) (fun h2 => ?_)
    · omega
    · refine lv_aload_n hx hb d_TA_note_13 rfl (lv_at hl 0 rfl) ?_
      refine ct_get X h (q0 := 80 + t) (by omega) (lk_ce_t (by omega)) rfl gl_TA 1 (by decide) rfl gf_TA_9 rfl d_TA_note_14 ?_
      refine lv_iload_n hx hb d_TA_note_17 rfl (lv_at hl 1 rfl) ?_
      refine lv_iload_n hx hb d_TA_note_18 rfl (lv_at hl 2 rfl) ?_
      refine ta_ast X h (t := t) (j := v) (v := x) (by omega) (by omega) d_TA_note_19 (fun H locs h => ?_)
      exact lk_retv X h d_TA_note_20 (rfl)
set_option maxRecDepth 20000 in
theorem c_TA_notedAt (l : Launch) (D : va_G) (τ : Nat → ClassId) (ad : Nat → Nat) (M : lk_M) (t v : Nat) (ht : t < 4) (hv : v < 25) : lk_Ci l D τ 88 ad (lk_ce τ ad) y_TA_notedAt b_TA_notedAt 2 (.int) 0 0 [.ref (ad (80 + t)), .int (nI v)] M (fun r M1 => r = M 19 (32 * t + v) ∧ M1 = M) := by
  refine lk_openi (by decide +kernel) (Nat.le_of_ble_eq_true rfl) ?_
  intro pg en s m args below meth cd ls A X h hA hl
  obtain ⟨hx, hb, -⟩ := id X
  have hl : lv_has ls 2 [(0, .ref (ad (80 + t))), (1, .int (nI v))] := hl
  refine lv_iload_n hx hb d_TA_notedAt_0 rfl (lv_at hl 1 rfl) ?_
  refine lv_if_lt (tgt := 22) hx hb d_TA_notedAt_1 (by decide) (fun h1 => ?_) (fun h1 => ?_)
  · exact absurd h1 (nI_pos (by omega))
  · refine lv_iload_n hx hb d_TA_notedAt_4 rfl (lv_at hl 1 rfl) ?_
    refine lv_aload_n hx hb d_TA_notedAt_5 rfl (lv_at hl 0 rfl) ?_
    refine ct_get X h (q0 := 80 + t) (by omega) (lk_ce_t (by omega)) rfl gl_TA 1 (by decide) rfl gf_TA_9 rfl d_TA_notedAt_6 ?_
    refine ct_alen X h (q0 := 84 + t) (by omega) (lk_ce_p (by omega)) d_TA_notedAt_9 ?_
    refine lk_cN_ge (tgt := 22) hx hb (by omega) (by omega) d_TA_notedAt_10 (by decide) (fun h2 => ?_) (fun h2 => ?_)
    · omega
    · refine lv_aload_n hx hb d_TA_notedAt_13 rfl (lv_at hl 0 rfl) ?_
      refine ct_get X h (q0 := 80 + t) (by omega) (lk_ce_t (by omega)) rfl gl_TA 1 (by decide) rfl gf_TA_9 rfl d_TA_notedAt_14 ?_
      refine lv_iload_n hx hb d_TA_notedAt_17 rfl (lv_at hl 1 rfl) ?_
      refine ta_ald X h (t := t) (j := v) (by omega) (by omega) d_TA_notedAt_18 ?_
      refine lv_goto (tgt := 23) hx hb d_TA_notedAt_19 (by decide) ?_
      exact lk_reti X h d_TA_notedAt_23 (⟨rfl, rfl⟩)
