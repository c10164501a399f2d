theorem lk_idivN {p : Program} {l : Launch} {e : Env} {R : Room} {s : State} {m : MethodId} {args : Array Value} {below : List Frame} {meth : Method} {c : Code} {H : Heap} {locs : List Loc} {cells slots : Nat} {Q : State → Prop} {cc : ByteArray} {pc : Nat} {ls : Array Slot} {rest : List Value} (hexec : p.tables.exec = Jvm.exec) (hb : c.code = cc) {x y : Nat} (h1 : x < 2 ^ 31) (h2 : 0 < y) (h3 : y < 2 ^ 31) (hdg : decode cc pc = .ok (.idiv, 1)) (k : W p l e R s m args below meth c H locs cells slots Q (F0 m (pc + 1) ls (.int (nI (x / y)) :: rest))) : W p l e R s m args below meth c H locs cells slots Q (F0 m pc ls (.int (nI y) :: .int (nI x) :: rest)) :=
  lv_idiv hexec hb hdg (nI_ne0 h2 h3) (by rw [pk_div h1 h2 h3]; exact k)
/-- the first entry of b goes behind a's, r times; a's last entry goes before b's, r times -/
def lk_mvF (a b : Nat) : Nat → Nat → Nat → lk_M → lk_M
  | 0, _, _, σ => σ
  | r + 1, na, nb, σ => lk_mvF a b r (na + 1) (nb - 1) (lk_del (lk_ins σ a na na (σ 7 (5 * b)) (σ 8 (5 * b))) b 0 nb)
def lk_mvL (a b : Nat) : Nat → Nat → Nat → lk_M → lk_M
  | 0, _, _, σ => σ
  | r + 1, na, nb, σ => lk_mvL a b r (na - 1) (nb + 1) (lk_st (lk_ins σ b 0 nb (σ 7 (5 * a + na - 1)) (σ 8 (5 * a + na - 1))) 5 a (nI (na - 1)))
theorem lk_mvF_5 (a b : Nat) (hab : a ≠ b) : ∀ (r na nb : Nat) (σ : lk_M), r ≤ nb → σ 5 a = nI na → σ 5 b = nI nb → lk_mvF a b r na nb σ 5 a = nI (na + r) ∧ lk_mvF a b r na nb σ 5 b = nI (nb - r) := by
  intro r
  induction r with
  | zero => intro na nb σ _ h1 h2; exact ⟨h1, h2⟩
  | succ r ih =>
    intro na nb σ hr h1 h2
    obtain ⟨q1, q2⟩ := ih (na + 1) (nb - 1) (lk_del (lk_ins σ a na na (σ 7 (5 * b)) (σ 8 (5 * b))) b 0 nb) (by omega) (by rw [lk_del_5, if_neg hab, lk_ins_5, if_pos rfl]) (by rw [lk_del_5, if_pos rfl])
    refine ⟨?_, ?_⟩
    · show lk_mvF a b r (na + 1) (nb - 1) _ 5 a = _
      rw [q1, show na + 1 + r = na + (r + 1) by omega]
    · show lk_mvF a b r (na + 1) (nb - 1) _ 5 b = _
      rw [q2, show nb - 1 - r = nb - (r + 1) by omega]
/-- what balance does to the entries, then the bounds -/
def lk_shr (σ : lk_M) (a b na nb : Nat) : lk_M := lk_mvL a b (na - (na + nb + 1) / 2) (na + ((na + nb + 1) / 2 - na)) (nb - ((na + nb + 1) / 2 - na)) (lk_mvF a b ((na + nb + 1) / 2 - na) na nb σ)
def mm_bal (σ : lk_M) (a b na nb : Nat) : lk_M := lk_st (lk_st (lk_shr σ a b na nb) 3 a (lk_shr σ a b na nb 7 (5 * a + (na + nb + 1) / 2 - 1))) 2 b (lk_shr σ a b na nb 7 (5 * a + (na + nb + 1) / 2 - 1))
section
variable {pg : Program} {l : Launch} {en : Env} {R : Room} {s : State} {m : MethodId} {args : Array Value} {below : List Frame} {meth : Method} {cd : Code} {H : Heap} {locs : List Loc} {cells slots : Nat} {Q : State → Prop} {D : va_G} {τ : Nat → ClassId} {ad : Nat → Nat} {A : Nat → Prop} {H0 : Heap} {M : lk_M}
theorem w_MO_bal1 (X : lk_X pg s m args meth cd y_MO_balance b_MO_balance 5 (none) D τ) (hA : ∀ q, H0.size ≤ q → A q) (hR : 1 ≤ R.frames ∧ 25 ≤ R.locals) {a b half : Nat} (ha : a < 24) (hb2 : b < 24) (hab : a ≠ b) (hh : half ≤ 5) : ∀ (r na nb : Nat) (M : lk_M), na + r = half → r ≤ nb → nb ≤ 5 → M 5 a = nI na → M 5 b = nI nb → ∀ (H : Heap) (locs : List Loc) (ls : Array Slot), lk_H D lk_cl A H0 (lk_w 25 ad (lk_me τ ad M)) H locs → lv_has ls 5 [(3, .int (nI half)), (0, .ref (ad 0)), (1, .int (nI a)), (2, .int (nI b))] → (∀ (H : Heap) (locs : List Loc) (ls : Array Slot), lk_H D lk_cl A H0 (lk_w 25 ad (lk_me τ ad (lk_mvF a b r na nb M))) H locs → lv_has ls 5 [(3, .int (nI half)), (0, .ref (ad 0)), (1, .int (nI a)), (2, .int (nI b))] → W pg l en R s m args below meth cd H locs 0 0 Q (F0 m 58 ls [])) → W pg l en R s m args below meth cd H locs 0 0 Q (F0 m 18 ls []) := by
  obtain ⟨hx, hb, -⟩ := id X
  intro r
  induction r with
  | zero =>
    intro na nb M hr hrb hnb h5a h5b H locs ls h hl kk
    refine lv_aload_n hx hb d_MO_balance_18 rfl (lv_at hl 1 rfl) ?_
    refine mo_get X rfl h 6 (by decide) rfl gf_MO_25 rfl d_MO_balance_19 ?_
    refine lv_iload_n hx hb d_MO_balance_22 rfl (lv_at hl 2 rfl) ?_
    refine mo_ald X h 5 24 rfl (by decide) (j := a) (by omega) (by decide) d_MO_balance_23 ?_
    refine lk_top (nI na) (h5a) ?_
    refine lv_iload_n hx hb d_MO_balance_24 rfl (lv_at hl 0 rfl) ?_
    refine lk_cN_ge (tgt := 58) hx hb (by omega) (by omega) d_MO_balance_25 (by decide) (fun h1 => ?_) (fun h1 => ?_)
    · exact kk H locs ls h hl
    · omega
  | succ r ih =>
    intro na nb M hr hrb hnb h5a h5b H locs ls h hl kk
    refine lv_aload_n hx hb d_MO_balance_18 rfl (lv_at hl 1 rfl) ?_
    refine mo_get X rfl h 6 (by decide) rfl gf_MO_25 rfl d_MO_balance_19 ?_
    refine lv_iload_n hx hb d_MO_balance_22 rfl (lv_at hl 2 rfl) ?_
    refine mo_ald X h 5 24 rfl (by decide) (j := a) (by omega) (by decide) d_MO_balance_23 ?_
    refine lk_top (nI na) (h5a) ?_
    refine lv_iload_n hx hb d_MO_balance_24 rfl (lv_at hl 0 rfl) ?_
    refine lk_cN_ge (tgt := 58) hx hb (by omega) (by omega) d_MO_balance_25 (by decide) (fun h1 => ?_) (fun h1 => ?_)
    · omega
    · refine lv_aload_n hx hb d_MO_balance_28 rfl (lv_at hl 1 rfl) ?_
      refine lv_iload_n hx hb d_MO_balance_29 rfl (lv_at hl 2 rfl) ?_
      refine lv_aload_n hx hb d_MO_balance_30 rfl (lv_at hl 1 rfl) ?_
      refine mo_get X rfl h 8 (by decide) rfl gf_MO_31 rfl d_MO_balance_31 ?_
      refine lv_iconst (v := nI 5) hx hb d_MO_balance_34 (by decide) ?_
      refine lv_iload_n hx hb d_MO_balance_35 rfl (lv_at hl 3 rfl) ?_
      refine lk_imulN hx hb d_MO_balance_36 ?_
      refine mo_ald X h 7 120 rfl (by decide) (j := 5 * b) (by omega) (by decide) d_MO_balance_37 ?_
      refine lv_aload_n hx hb d_MO_balance_38 rfl (lv_at hl 1 rfl) ?_
      refine mo_get X rfl h 9 (by decide) rfl gf_MO_34 rfl d_MO_balance_39 ?_
      refine lv_iconst (v := nI 5) hx hb d_MO_balance_42 (by decide) ?_
      refine lv_iload_n hx hb d_MO_balance_43 rfl (lv_at hl 3 rfl) ?_
      refine lk_imulN hx hb d_MO_balance_44 ?_
      refine mo_ald X h 8 120 rfl (by decide) (j := 5 * b) (by omega) (by decide) d_MO_balance_45 ?_
      refine lk_gov (lk_runV (As := [.int (nI a), .int (M 7 (5 * b)), .int (M 8 (5 * b))]) (C := R_MO) X h (c_MO_append l D τ ad M a na ha h5a (by omega) _ _) ⟨gc_MO_append, gm_MO_154, gn_MO, gd_MO_append, hR.1, Nat.le_trans (by decide) hR.2⟩ gi_MO_append gs_MO_append ⟨0, 4, _, _, _, lk_w_get (by decide), rfl⟩ rfl hl.1 (Nat.le_of_ble_eq_true rfl) d_MO_balance_46 ⟨Nat.zero_le _, Nat.zero_le _⟩) h hA (fun σ46 H locs hk9 h => ?_)
      rw [hk9] at h
      refine lv_aload_n hx hb d_MO_balance_49 rfl (lv_at hl 1 rfl) ?_
      refine lv_iload_n hx hb d_MO_balance_50 rfl (lv_at hl 3 rfl) ?_
      refine lv_iconst (v := 0) hx hb d_MO_balance_51 (by decide) ?_
      refine lk_gov (lk_runV (As := [.int (nI b), .int 0]) (C := R_MO) X h (c_MO_takeOut l D τ ad _ b 0 nb hb2 (lk_ins_5.trans ((if_neg (Ne.symm hab)).trans h5b)) (by omega) (by omega)) ⟨gc_MO_takeOut, gm_MO_186, gn_MO, gd_MO_takeOut, hR.1, Nat.le_trans (by decide) hR.2⟩ gi_MO_takeOut gs_MO_takeOut ⟨0, 4, _, _, _, lk_w_get (by decide), rfl⟩ rfl hl.1 (Nat.le_of_ble_eq_true rfl) d_MO_balance_52 ⟨Nat.zero_le _, Nat.zero_le _⟩) h hA (fun σ52 H locs hk9 h => ?_)
      rw [hk9] at h
      refine lv_goto (tgt := 18) hx hb d_MO_balance_55 (by decide) ?_
      exact ih (na + 1) (nb - 1) _ (by omega) (by omega) (by omega) (by rw [lk_del_5, if_neg hab, lk_ins_5, if_pos rfl]) (by rw [lk_del_5, if_pos rfl]) H locs ls h hl kk
theorem w_MO_bal2 (X : lk_X pg s m args meth cd y_MO_balance b_MO_balance 5 (none) D τ) (hA : ∀ q, H0.size ≤ q → A q) (hR : 1 ≤ R.frames ∧ 25 ≤ R.locals) {a b half : Nat} (ha : a < 24) (hb2 : b < 24) (hab : a ≠ b) (hh : half ≤ 5) : ∀ (r na nb : Nat) (M : lk_M), half + r = na → na ≤ 5 → r + nb ≤ 5 → M 5 a = nI na → M 5 b = nI nb → ∀ (H : Heap) (locs : List Loc) (ls : Array Slot) (L : List (Nat × Value)), (∃ v4 : List (Nat × Value), L = v4 ++ [(3, .int (nI half)), (0, .ref (ad 0)), (1, .int (nI a)), (2, .int (nI b))] ∧ (v4 = [] ∨ ∃ z : Int32, v4 = [(4, .int z)])) → lk_H D lk_cl A H0 (lk_w 25 ad (lk_me τ ad M)) H locs → lv_has ls 5 L → (∀ (H : Heap) (locs : List Loc) (ls : Array Slot), lk_H D lk_cl A H0 (lk_w 25 ad (lk_me τ ad (lk_mvL a b r na nb M))) H locs → lv_has ls 5 [(3, .int (nI half)), (0, .ref (ad 0)), (1, .int (nI a)), (2, .int (nI b))] → W pg l en R s m args below meth cd H locs 0 0 Q (F0 m 115 ls [])) → W pg l en R s m args below meth cd H locs 0 0 Q (F0 m 58 ls []) := by
  obtain ⟨hx, hb, -⟩ := id X
  intro r
  induction r with
  | zero =>
    intro na nb M hr hna hrb h5a h5b H locs ls L hL h hl kk
    have hl : lv_has ls 5 [(3, .int (nI half)), (0, .ref (ad 0)), (1, .int (nI a)), (2, .int (nI b))] := by
      obtain ⟨v4, rfl, rfl | ⟨z, rfl⟩⟩ := hL
      · exact hl
      · exact lv_sub hl [1, 2, 3, 4] rfl
    refine lv_aload_n hx hb d_MO_balance_58 rfl (lv_at hl 1 rfl) ?_
    refine mo_get X rfl h 6 (by decide) rfl gf_MO_25 rfl d_MO_balance_59 ?_
    refine lv_iload_n hx hb d_MO_balance_62 rfl (lv_at hl 2 rfl) ?_
    refine mo_ald X h 5 24 rfl (by decide) (j := a) (by omega) (by decide) d_MO_balance_63 ?_
    refine lk_top (nI na) (h5a) ?_
    refine lv_iload_n hx hb d_MO_balance_64 rfl (lv_at hl 0 rfl) ?_
    refine lk_cN_le (tgt := 115) hx hb (by omega) (by omega) d_MO_balance_65 (by decide) (fun h1 => ?_) (fun h1 => ?_)
    · exact kk H locs ls h hl
    · omega
  | succ r ih =>
    intro na nb M hr hna hrb h5a h5b H locs ls L hL h hl kk
    have hl : lv_has ls 5 [(3, .int (nI half)), (0, .ref (ad 0)), (1, .int (nI a)), (2, .int (nI b))] := by
      obtain ⟨v4, rfl, rfl | ⟨z, rfl⟩⟩ := hL
      · exact hl
      · exact lv_sub hl [1, 2, 3, 4] rfl
    refine lv_aload_n hx hb d_MO_balance_58 rfl (lv_at hl 1 rfl) ?_
    refine mo_get X rfl h 6 (by decide) rfl gf_MO_25 rfl d_MO_balance_59 ?_
    refine lv_iload_n hx hb d_MO_balance_62 rfl (lv_at hl 2 rfl) ?_
    refine mo_ald X h 5 24 rfl (by decide) (j := a) (by omega) (by decide) d_MO_balance_63 ?_
    refine lk_top (nI na) (h5a) ?_
    refine lv_iload_n hx hb d_MO_balance_64 rfl (lv_at hl 0 rfl) ?_
    refine lk_cN_le (tgt := 115) hx hb (by omega) (by omega) d_MO_balance_65 (by decide) (fun h1 => ?_) (fun h1 => ?_)
    · omega
    · refine lv_iconst (v := nI 5) hx hb d_MO_balance_68 (by decide) ?_
      refine lv_iload_n hx hb d_MO_balance_69 rfl (lv_at hl 2 rfl) ?_
      refine lk_imulN hx hb d_MO_balance_70 ?_
      refine lv_aload_n hx hb d_MO_balance_71 rfl (lv_at hl 1 rfl) ?_
      refine mo_get X rfl h 6 (by decide) rfl gf_MO_25 rfl d_MO_balance_72 ?_
      refine lv_iload_n hx hb d_MO_balance_75 rfl (lv_at hl 2 rfl) ?_
      refine mo_ald X h 5 24 rfl (by decide) (j := a) (by omega) (by decide) d_MO_balance_76 ?_
      refine lk_top (nI na) (h5a) ?_
      refine lk_iaddN hx hb d_MO_balance_77 ?_
      refine lv_iconst (v := nI 1) hx hb d_MO_balance_78 (by decide) ?_
      refine lk_isubN hx hb (by omega) d_MO_balance_79 ?_
      refine lv_istore hx hb d_MO_balance_80 hl (by decide) rfl (fun ls hl => ?_)
      have hl : lv_has ls 5 [(4, .int (nI (5 * a + na - 1))), (3, .int (nI half)), (0, .ref (ad 0)), (1, .int (nI a)), (2, .int (nI b))] := hl
      refine lv_aload_n hx hb d_MO_balance_82 rfl (lv_at hl 2 rfl) ?_
      refine lv_iload_n hx hb d_MO_balance_83 rfl (lv_at hl 4 rfl) ?_
      refine lv_iconst (v := nI 0) hx hb d_MO_balance_84 (by decide) ?_
      refine lv_aload_n hx hb d_MO_balance_85 rfl (lv_at hl 2 rfl) ?_
      refine mo_get X rfl h 8 (by decide) rfl gf_MO_31 rfl d_MO_balance_86 ?_
      refine lv_iload hx hb d_MO_balance_89 (lv_at hl 0 rfl) ?_
      refine mo_ald X h 7 120 rfl (by decide) (j := 5 * a + na - 1) (by omega) (by decide) d_MO_balance_91 ?_
      refine lv_aload_n hx hb d_MO_balance_92 rfl (lv_at hl 2 rfl) ?_
      refine mo_get X rfl h 9 (by decide) rfl gf_MO_34 rfl d_MO_balance_93 ?_
      refine lv_iload hx hb d_MO_balance_96 (lv_at hl 0 rfl) ?_
      refine mo_ald X h 8 120 rfl (by decide) (j := 5 * a + na - 1) (by omega) (by decide) d_MO_balance_98 ?_
      refine lk_gov (lk_runV (As := [.int (nI b), .int (nI 0), .int (M 7 (5 * a + na - 1)), .int (M 8 (5 * a + na - 1))]) (C := R_MO) X h (c_MO_insert l D τ ad M b 0 nb hb2 h5b (by omega) (by omega) _ _) ⟨gc_MO_insert, gm_MO_179, gn_MO, gd_MO_insert, hR.1, Nat.le_trans (by decide) hR.2⟩ gi_MO_insert gs_MO_insert ⟨0, 4, _, _, _, lk_w_get (by decide), rfl⟩ rfl hl.1 (Nat.le_of_ble_eq_true rfl) d_MO_balance_99 ⟨Nat.zero_le _, Nat.zero_le _⟩) h hA (fun σ99 H locs hk9 h => ?_)
      rw [hk9] at h
      refine lv_aload_n hx hb d_MO_balance_102 rfl (lv_at hl 2 rfl) ?_
      refine mo_get X rfl h 6 (by decide) rfl gf_MO_25 rfl d_MO_balance_103 ?_
      refine lv_iload_n hx hb d_MO_balance_106 rfl (lv_at hl 3 rfl) ?_
      refine lv_dup2_11 hx hb d_MO_balance_107 rfl rfl ?_
      refine mo_ald X h 5 24 rfl (by decide) (j := a) (by omega) (by decide) d_MO_balance_108 ?_
      refine lk_top (nI na) (lk_ins_5.trans ((if_neg hab).trans h5a)) ?_
      refine lv_iconst (v := nI 1) hx hb d_MO_balance_109 (by decide) ?_
      refine lk_isubN hx hb (by omega) d_MO_balance_110 ?_
      refine mo_ast X h 5 24 rfl (by decide) (j := a) (v := nI (na - 1)) (by omega) (by decide) d_MO_balance_111 (fun H locs h => ?_)
      refine lv_goto (tgt := 58) hx hb d_MO_balance_112 (by decide) ?_
      exact ih (na - 1) (nb + 1) _ (by omega) (by omega) (by omega) lk_st_s (by rw [lk_st_p (Ne.symm hab), lk_ins_5, if_pos rfl]) H locs ls _ ⟨[(4, .int (nI (5 * a + na - 1)))], rfl, Or.inr ⟨_, rfl⟩⟩ h hl kk
end
section
variable {pg : Program} {l : Launch} {en : Env} {R : Room} {s : State} {m : MethodId} {args : Array Value} {below : List Frame} {meth : Method} {cd : Code} {H : Heap} {locs : List Loc} {cells slots : Nat} {Q : State → Prop} {D : va_G} {τ : Nat → ClassId} {ad : Nat → Nat} {A : Nat → Prop} {H0 : Heap} {M : lk_M}
theorem w_MO_bal2x (X : lk_X pg s m args meth cd y_MO_balance b_MO_balance 5 (none) D τ) (hA : ∀ q, H0.size ≤ q → A q) (hR : 1 ≤ R.frames ∧ 25 ≤ R.locals) {a b half na nb : Nat} (ha : a < 24) (hb2 : b < 24) (hab : a ≠ b) (h5a : M 5 a = nI na) (h5b : M 5 b = nI nb) (hh : half ≤ na) (hna : na ≤ 5) (hnb : na - half + nb ≤ 5) (H : Heap) (locs : List Loc) (ls : Array Slot) (h : lk_H D lk_cl A H0 (lk_w 25 ad (lk_me τ ad M)) H locs) (hl : lv_has ls 5 [(3, .int (nI half)), (0, .ref (ad 0)), (1, .int (nI a)), (2, .int (nI b))]) (kk : ∀ (H : Heap) (locs : List Loc) (ls : Array Slot), lk_H D lk_cl A H0 (lk_w 25 ad (lk_me τ ad (lk_mvL a b (na - half) na nb M))) H locs → lv_has ls 5 [(3, .int (nI half)), (0, .ref (ad 0)), (1, .int (nI a)), (2, .int (nI b))] → W pg l en R s m args below meth cd H locs 0 0 Q (F0 m 115 ls [])) : W pg l en R s m args below meth cd H locs 0 0 Q (F0 m 18 ls []) := by
  obtain ⟨hx, hb, -⟩ := id X
  refine lv_aload_n hx hb d_MO_balance_18 rfl (lv_at hl 1 rfl) ?_
  refine mo_get X rfl h 6 (by decide) rfl gf_MO_25 rfl d_MO_balance_19 ?_
  refine lv_iload_n hx hb d_MO_balance_22 rfl (lv_at hl 2 rfl) ?_
  refine mo_ald X h 5 24 rfl (by decide) (j := a) (by omega) (by decide) d_MO_balance_23 ?_
  refine lk_top (nI na) (h5a) ?_
  refine lv_iload_n hx hb d_MO_balance_24 rfl (lv_at hl 0 rfl) ?_
  refine lk_cN_ge (tgt := 58) hx hb (by omega) (by omega) d_MO_balance_25 (by decide) (fun h1 => ?_) (fun h1 => ?_)
  · exact w_MO_bal2 X hA hR ha hb2 hab (by omega) (na - half) na nb M (by omega) hna hnb h5a h5b H locs ls _ ⟨[], rfl, Or.inl rfl⟩ h hl kk
  · omega
end
set_option maxRecDepth 20000 in
theorem c_MO_balance (l : Launch) (D : va_G) (τ : Nat → ClassId) (ad : Nat → Nat) (M : lk_M) (a b na nb : Nat) (ha : a < 24) (hb2 : b < 24) (hab : a ≠ b) (h5a : M 5 a = nI na) (h5b : M 5 b = nI nb) (hna : na ≤ 4) (hnb : nb ≤ 4) (hpos : 0 < na + nb) : lk_Cv l D τ 25 ad (lk_me τ ad) y_MO_balance b_MO_balance 5 1 25 [.ref (ad 0), .int (nI a), .int (nI b)] M (fun M1 => M1 = mm_bal M a b na nb) := by
  refine lk_openv (by decide +kernel) (Nat.le_of_ble_eq_true rfl) ?_
  intro pg en s m args below meth cd ls A X h hA hl
  obtain ⟨hx, hb, -⟩ := id X
  have hl : lv_has ls 5 [(0, .ref (ad 0)), (1, .int (nI a)), (2, .int (nI b))] := hl
  refine lv_aload_n hx hb d_MO_balance_0 rfl (lv_at hl 0 rfl) ?_
  refine mo_get X rfl h 6 (by decide) rfl gf_MO_25 rfl d_MO_balance_1 ?_
  refine lv_iload_n hx hb d_MO_balance_4 rfl (lv_at hl 1 rfl) ?_
  refine mo_ald X h 5 24 rfl (by decide) (j := a) (by omega) (by decide) d_MO_balance_5 ?_
  refine lk_top (nI na) (h5a) ?_
  refine lv_aload_n hx hb d_MO_balance_6 rfl (lv_at hl 0 rfl) ?_
  refine mo_get X rfl h 6 (by decide) rfl gf_MO_25 rfl d_MO_balance_7 ?_
  refine lv_iload_n hx hb d_MO_balance_10 rfl (lv_at hl 2 rfl) ?_
  refine mo_ald X h 5 24 rfl (by decide) (j := b) (by omega) (by decide) d_MO_balance_11 ?_
  refine lk_top (nI nb) (h5b) ?_
  refine lk_iaddN hx hb d_MO_balance_12 ?_
  refine lv_iconst (v := nI 1) hx hb d_MO_balance_13 (by decide) ?_
  refine lk_iaddN hx hb d_MO_balance_14 ?_
  refine lv_iconst (v := nI 2) hx hb d_MO_balance_15 (by decide) ?_
  refine lk_idivN hx hb (by omega) (by omega) (by omega) d_MO_balance_16 ?_
  refine lv_istore_n hx hb d_MO_balance_17 rfl hl (by decide) rfl (fun ls hl => ?_)
  have hl : lv_has ls 5 [(3, .int (nI ((na + nb + 1) / 2))), (0, .ref (ad 0)), (1, .int (nI a)), (2, .int (nI b))] := hl
  have hl2 : (na + nb + 1) / 2 ≤ na + nb := by omega
  have hl3 : 1 ≤ (na + nb + 1) / 2 := by omega
  have hl4 : (na + nb + 1) / 2 ≤ 4 := by omega
  have hl5 : na - (na + nb + 1) / 2 + nb ≤ 4 := by omega
  have hl6 : na + nb ≤ 2 * ((na + nb + 1) / 2) := by omega
  generalize hhf : (na + nb + 1) / 2 = half at *
  obtain ⟨q1, q2⟩ := lk_mvF_5 a b hab (half - na) na nb M (by omega) h5a h5b
  have fin : ∀ (H : Heap) (locs : List Loc) (ls : Array Slot), lk_H D lk_cl A s.heap (lk_w 25 ad (lk_me τ ad (lk_shr M a b na nb))) H locs → lv_has ls 5 [(3, .int (nI half)), (0, .ref (ad 0)), (1, .int (nI a)), (2, .int (nI b))] → W pg l en (lk_rm 1 25) s m args below meth cd H locs 0 0 (MQ below (va_Qv (fun M1 => M1 = mm_bal M a b na nb) (lk_Bh D τ 25 ad (lk_me τ ad)) A) args s 0 0 A) (F0 m 115 ls []) := by
    intro H locs ls h hl
    refine lv_aload_n hx hb d_MO_balance_115 rfl (lv_at hl 1 rfl) ?_
    refine mo_get X rfl h 4 (by decide) rfl gf_MO_19 rfl d_MO_balance_116 ?_
    refine lv_iload_n hx hb d_MO_balance_119 rfl (lv_at hl 2 rfl) ?_
    refine lv_aload_n hx hb d_MO_balance_120 rfl (lv_at hl 1 rfl) ?_
    refine mo_get X rfl h 8 (by decide) rfl gf_MO_31 rfl d_MO_balance_121 ?_
    refine lv_iconst (v := nI 5) hx hb d_MO_balance_124 (by decide) ?_
    refine lv_iload_n hx hb d_MO_balance_125 rfl (lv_at hl 2 rfl) ?_
    refine lk_imulN hx hb d_MO_balance_126 ?_
    refine lv_iload_n hx hb d_MO_balance_127 rfl (lv_at hl 0 rfl) ?_
    refine lk_iaddN hx hb d_MO_balance_128 ?_
    refine lv_iconst (v := nI 1) hx hb d_MO_balance_129 (by decide) ?_
    refine lk_isubN hx hb (by omega) d_MO_balance_130 ?_
    refine mo_ald X h 7 120 rfl (by decide) (j := 5 * a + half - 1) (by omega) (by decide) d_MO_balance_131 ?_
    refine mo_ast X h 3 24 rfl (by decide) (j := a) (v := (lk_shr M a b na nb) 7 (5 * a + half - 1)) (by omega) (by decide) d_MO_balance_132 (fun H locs h => ?_)
    refine lv_aload_n hx hb d_MO_balance_133 rfl (lv_at hl 1 rfl) ?_
    refine mo_get X rfl h 3 (by decide) rfl gf_MO_16 rfl d_MO_balance_134 ?_
    refine lv_iload_n hx hb d_MO_balance_137 rfl (lv_at hl 3 rfl) ?_
    refine lv_aload_n hx hb d_MO_balance_138 rfl (lv_at hl 1 rfl) ?_
    refine mo_get X rfl h 4 (by decide) rfl gf_MO_19 rfl d_MO_balance_139 ?_
    refine lv_iload_n hx hb d_MO_balance_142 rfl (lv_at hl 2 rfl) ?_
    refine mo_ald X h 3 24 rfl (by decide) (j := a) (by omega) (by decide) d_MO_balance_143 ?_
    refine lk_top ((lk_shr M a b na nb) 7 (5 * a + half - 1)) (lk_st_s) ?_
    refine mo_ast X h 2 24 rfl (by decide) (j := b) (v := (lk_shr M a b na nb) 7 (5 * a + half - 1)) (by omega) (by decide) d_MO_balance_144 (fun H locs h => ?_)
    exact lk_retv X h d_MO_balance_145 (by unfold mm_bal; rw [hhf])
  by_cases hc : na ≤ half
  · refine w_MO_bal1 X hA (by decide) ha hb2 hab (by omega) (half - na) na nb M (by omega) (by omega) (by omega) h5a h5b _ _ ls h hl (fun H locs ls h hl => ?_)
    refine w_MO_bal2 X hA (by decide) ha hb2 hab (by omega) 0 (na + (half - na)) (nb - (half - na)) _ (by omega) (by omega) (by omega) q1 q2 _ _ ls _ ⟨[], rfl, Or.inl rfl⟩ h hl (fun H locs ls h hl => fin H locs ls ?_ hl)
    have e : lk_shr M a b na nb = lk_mvL a b 0 (na + (half - na)) (nb - (half - na)) (lk_mvF a b (half - na) na nb M) := by unfold lk_shr; rw [hhf, show na - half = 0 by omega]
    rw [e]; exact h
  · refine w_MO_bal2x X hA (by decide) ha hb2 hab h5a h5b (by omega) (by omega) (by omega) _ _ ls h hl (fun H locs ls h hl => fin H locs ls ?_ hl)
    have e : lk_shr M a b na nb = lk_mvL a b (na - half) na nb M := by unfold lk_shr; rw [hhf, show half - na = 0 by omega]; rfl
    rw [e]; exact h
