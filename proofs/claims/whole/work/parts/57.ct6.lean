theorem lk_nI_nat {n : Nat} (h : n < 1000) : (nI n).toNatClampNeg = n := by
  rw [Int32.toNatClampNeg, nI_toInt (by omega)]
  omega
theorem lk_un_s (M : lk_M) (f q : Nat) : lk_un M (f + 1) q = lk_sm (fun i => lk_un M f (M 8 (5 * q + i)).toNatClampNeg) (M 5 q).toNatClampNeg := rfl
def lk_Le (l : Launch) (D : va_G) (τ : Nat → ClassId) (ad : Nat → Nat) (M : lk_M) (f : Nat) : Prop := ∀ (q d : Nat), lk_tw M f q → d + f ≤ 24 → lk_Ci l D τ 88 ad (lk_ce τ ad) y_LT_leafEntries b_LT_leafEntries 5 (.int) (f + 2) (24 * f + 41) [.ref (ad 0), .ref (ad (5 + q)), .int (nI d)] M (fun r M1 => r = lk_un M f q ∧ M1 = M)
section
variable {pg : Program} {l : Launch} {en : Env} {R : Room} {s : State} {m : MethodId} {args : Array Value} {below : List Frame} {meth : Method} {cd : Code} {H : Heap} {locs : List Loc} {cells slots : Nat} {Q : State → Prop} {D : va_G} {τ : Nat → ClassId} {ad : Nat → Nat} {A : Nat → Prop} {H0 : Heap} {M : lk_M}
theorem w_LT_leafEntries (X : lk_X pg s m args meth cd y_LT_leafEntries b_LT_leafEntries 5 (some (.int)) D τ) (hA : ∀ z, s.heap.size ≤ z → A z) {f q d n : Nat} {g : Nat → Int32} {post : Int32 → lk_M → Prop} (hR : R = lk_rm (f + 1 + 2) (24 * (f + 1) + 41)) (hq : q < 24) (hd : d + (f + 1) ≤ 24) (hc : M 5 q = nI n) (hn : n ≤ 4) (hch : ∀ i, i < n → ∃ c : Nat, M 8 (5 * q + i) = nI c ∧ lk_tw M f c ∧ g i = lk_un M f c) (ih : lk_Le l D τ ad M f) (hp : post (lk_sm g n) M) : ∀ (r i : Nat), i + r = n → ∀ (H : Heap) (locs : List Loc) (ls : Array Slot), lk_H D lk_cl A s.heap (lk_w 88 ad (lk_ce τ ad M)) H locs → lv_has ls 5 [(4, .int (nI i)), (3, .int (lk_sm g i)), (0, .ref (ad 0)), (1, .ref (ad (5 + q))), (2, .int (nI d))] → W pg l en R s m args below meth cd H locs 0 0 (MQ below (va_Qi post (lk_Bh D τ 88 ad (lk_ce τ ad)) A) args s 0 0 A) (F0 m 33 ls []) := by
  obtain ⟨hx, hb, -⟩ := id X
  intro r
  induction r with
  | zero =>
    intro i hi H locs ls h hl
    have hi : i = n := by omega
    subst hi
    refine lv_iload hx hb d_LT_leafEntries_33 (lv_at hl 0 rfl) ?_
    refine lv_aload_n hx hb d_LT_leafEntries_35 rfl (lv_at hl 3 rfl) ?_
    refine ct_get X h (q0 := 5 + q) (by omega) (lk_ce_n (by omega)) rfl gl_ND 3 (by decide) rfl gf_LT_142 rfl d_LT_leafEntries_36 ?_
    refine lk_top (nI i) (hc) ?_
    refine lk_cN_ge (tgt := 69) hx hb (by omega) (by omega) d_LT_leafEntries_39 (by decide) (fun h1 => ?_) (fun h1 => ?_)
    · refine lv_iload_n hx hb d_LT_leafEntries_69 rfl (lv_at hl 1 rfl) ?_
      exact lk_reti X h d_LT_leafEntries_70 (hp)
    · omega
  | succ r ihr =>
    intro i hi H locs ls h hl
    obtain ⟨c, hc8, htw, hg⟩ := hch i (by omega)
    have hc24 : c < 24 := (lk_tw_lt htw).1
    refine lv_iload hx hb d_LT_leafEntries_33 (lv_at hl 0 rfl) ?_
    refine lv_aload_n hx hb d_LT_leafEntries_35 rfl (lv_at hl 3 rfl) ?_
    refine ct_get X h (q0 := 5 + q) (by omega) (lk_ce_n (by omega)) rfl gl_ND 3 (by decide) rfl gf_LT_142 rfl d_LT_leafEntries_36 ?_
    refine lk_top (nI n) (hc) ?_
    refine lk_cN_ge (tgt := 69) hx hb (by omega) (by omega) d_LT_leafEntries_39 (by decide) (fun h1 => ?_) (fun h1 => ?_)
    · omega
    · refine lv_iload_n hx hb d_LT_leafEntries_42 rfl (lv_at hl 1 rfl) ?_
      refine lv_aload_n hx hb d_LT_leafEntries_43 rfl (lv_at hl 2 rfl) ?_
      refine lv_aload_n hx hb d_LT_leafEntries_44 rfl (lv_at hl 2 rfl) ?_
      refine lv_aload_n hx hb d_LT_leafEntries_45 rfl (lv_at hl 3 rfl) ?_
      refine ct_get X h (q0 := 5 + q) (by omega) (lk_ce_n (by omega)) rfl gl_ND 2 (by decide) rfl gf_LT_154 rfl d_LT_leafEntries_46 ?_
      refine lv_iload hx hb d_LT_leafEntries_49 (lv_at hl 0 rfl) ?_
      refine nd_ald8 X h (q := q) (j := i) (by omega) (by omega) d_LT_leafEntries_51 ?_
      refine lk_top (nI c) (hc8) ?_
      refine lk_goq (lk_runV (As := [.int (nI c)]) (C := R_LT) X h (c_LT_nodeAt l D τ ad _ c hc24) ⟨gc_LT_nodeAt, gm_LT_148, gn_LT, gd_LT_nodeAt, by rw [hR]; show 2 ≤ f + 1 + 2; omega, by rw [hR]; show 8 + (2 + 11) + 20 ≤ 24 * (f + 1) + 41; omega⟩ gi_LT_nodeAt gs_LT_nodeAt ⟨0, 0, _, _, _, lk_w_get (by decide), rfl⟩ rfl hl.1 (Nat.le_of_ble_eq_true rfl) d_LT_leafEntries_52 ⟨Nat.zero_le _, Nat.zero_le _⟩) h hA (fun r52 σ52 H locs hk9 h => ?_)
      rw [hk9.2] at h
      rw [hk9.1, show va_rf (some (ad (5 + c))) = .ref (ad (5 + c)) from rfl]
      refine lv_iload_n hx hb d_LT_leafEntries_55 rfl (lv_at hl 4 rfl) ?_
      refine lv_iconst (v := nI 1) hx hb d_LT_leafEntries_56 (by decide) ?_
      refine lk_iaddN hx hb d_LT_leafEntries_57 ?_
      refine lk_goi (lk_runV (As := [.ref (ad (5 + c)), .int (nI (d + 1))]) (C := R_LT) X h (ih c (d + 1) htw (by omega)) ⟨gc_LT_leafEntries, gm_LT_164, gn_LT, gd_LT_leafEntries, by rw [hR]; show f + 2 + 1 ≤ f + 1 + 2; omega, by rw [hR]; show 8 + (5 + 11) + (24 * f + 41) ≤ 24 * (f + 1) + 41; omega⟩ gi_LT_leafEntries gs_LT_leafEntries ⟨0, 0, _, _, _, lk_w_get (by decide), rfl⟩ rfl hl.1 (Nat.le_of_ble_eq_true rfl) d_LT_leafEntries_58 ⟨Nat.zero_le _, Nat.zero_le _⟩) h hA (fun r58 σ58 H locs hk9 h => ?_)
      rw [hk9.2] at h
      rw [hk9.1, ← hg]
      refine lv_iadd hx hb d_LT_leafEntries_61 ?_
      refine lv_istore_n hx hb d_LT_leafEntries_62 rfl hl (by decide) rfl (fun ls hl => ?_)
      have hl : lv_has ls 5 [(3, .int ((lk_sm g i) + (g i))), (4, .int (nI i)), (0, .ref (ad 0)), (1, .ref (ad (5 + q))), (2, .int (nI d))] := hl
      refine lv_iinc (k := 1) (v := nI (i + 1)) hx hb d_LT_leafEntries_63 hl rfl (nI_1 _) (by decide) rfl (fun ls hl => ?_)
      have hl : lv_has ls 5 [(4, .int (nI (i + 1))), (3, .int ((lk_sm g i) + (g i))), (0, .ref (ad 0)), (1, .ref (ad (5 + q))), (2, .int (nI d))] := hl
      refine lv_goto (tgt := 33) hx hb d_LT_leafEntries_66 (by decide) ?_
      exact ihr (i + 1) (by omega) H locs ls h hl
end
set_option maxRecDepth 20000 in
theorem c_LT_leafEntries (l : Launch) (D : va_G) (τ : Nat → ClassId) (ad : Nat → Nat) (M : lk_M) : ∀ f : Nat, lk_Le l D τ ad M f := by
  intro f
  induction f with
  | zero =>
    intro q d htw hd
    obtain ⟨hq, hkd, hlv, n, hn, hc⟩ := htw
    refine lk_openi (by decide +kernel) (Nat.le_of_ble_eq_true rfl) ?_
    intro pg en s m args below meth cd ls A X h hA hl
    obtain ⟨hx, hb, -⟩ := id X
    have hl : lv_has ls 5 [(0, .ref (ad 0)), (1, .ref (ad (5 + q))), (2, .int (nI d))] := hl
    refine lv_aload_n hx hb d_LT_leafEntries_0 rfl (lv_at hl 1 rfl) ?_
    refine ct_get X h (q0 := 5 + q) (by omega) (lk_ce_n (by omega)) rfl gl_ND 4 (by decide) rfl gf_LT_22 rfl d_LT_leafEntries_1 ?_
    refine lk_top 1 (hkd) ?_
    refine lv_iconst (v := 1) hx hb d_LT_leafEntries_4 (by decide) ?_
    refine lv_icmp_ne (tgt := 14) hx hb d_LT_leafEntries_5 (by decide) (fun z => absurd z (by decide)) (fun _ => ?_)
    refine lv_iload_n hx hb d_LT_leafEntries_8 rfl (lv_at hl 2 rfl) ?_
    refine lv_bipush (v := nI 24) hx hb d_LT_leafEntries_9 (by decide) ?_
    refine lk_cN_le (tgt := 16) hx hb (by omega) (by omega) d_LT_leafEntries_11 (by decide) (fun h1 => ?_) (fun h1 => ?_)
    · refine lv_aload_n hx hb d_LT_leafEntries_16 rfl (lv_at hl 1 rfl) ?_
      refine ct_get X h (q0 := 5 + q) (by omega) (lk_ce_n (by omega)) rfl gl_ND 5 (by decide) rfl gf_LT_132 rfl d_LT_leafEntries_17 ?_
      refine lk_top (nI 0) (hlv) ?_
      refine lv_if_ne (tgt := 28) hx hb d_LT_leafEntries_20 (by decide) (fun h2 => ?_) (fun h2 => ?_)
      · exact absurd (show nI 0 = 0 from rfl) h2
      · refine lv_aload_n hx hb d_LT_leafEntries_23 rfl (lv_at hl 1 rfl) ?_
        refine ct_get X h (q0 := 5 + q) (by omega) (lk_ce_n (by omega)) rfl gl_ND 3 (by decide) rfl gf_LT_142 rfl d_LT_leafEntries_24 ?_
        exact lk_reti X h d_LT_leafEntries_27 (⟨rfl, rfl⟩)
    · omega
  | succ f ih =>
    intro q d htw hd
    obtain ⟨hq, hkd, hlv, n, hn, hc, hch⟩ := htw
    refine lk_openi (by decide +kernel) (Nat.le_of_ble_eq_true rfl) ?_
    intro pg en s m args below meth cd ls A X h hA hl
    obtain ⟨hx, hb, -⟩ := id X
    have hl : lv_has ls 5 [(0, .ref (ad 0)), (1, .ref (ad (5 + q))), (2, .int (nI d))] := hl
    refine lv_aload_n hx hb d_LT_leafEntries_0 rfl (lv_at hl 1 rfl) ?_
    refine ct_get X h (q0 := 5 + q) (by omega) (lk_ce_n (by omega)) rfl gl_ND 4 (by decide) rfl gf_LT_22 rfl d_LT_leafEntries_1 ?_
    refine lk_top 1 (hkd) ?_
    refine lv_iconst (v := 1) hx hb d_LT_leafEntries_4 (by decide) ?_
    refine lv_icmp_ne (tgt := 14) hx hb d_LT_leafEntries_5 (by decide) (fun z => absurd z (by decide)) (fun _ => ?_)
    refine lv_iload_n hx hb d_LT_leafEntries_8 rfl (lv_at hl 2 rfl) ?_
    refine lv_bipush (v := nI 24) hx hb d_LT_leafEntries_9 (by decide) ?_
    refine lk_cN_le (tgt := 16) hx hb (by omega) (by omega) d_LT_leafEntries_11 (by decide) (fun h1 => ?_) (fun h1 => ?_)
    · refine lv_aload_n hx hb d_LT_leafEntries_16 rfl (lv_at hl 1 rfl) ?_
      refine ct_get X h (q0 := 5 + q) (by omega) (lk_ce_n (by omega)) rfl gl_ND 5 (by decide) rfl gf_LT_132 rfl d_LT_leafEntries_17 ?_
      refine lk_top (nI (f + 1)) (hlv) ?_
      refine lv_if_ne (tgt := 28) hx hb d_LT_leafEntries_20 (by decide) (fun h2 => ?_) (fun h2 => ?_)
      · refine lv_iconst (v := 0) hx hb d_LT_leafEntries_28 (by decide) ?_
        refine lv_istore_n hx hb d_LT_leafEntries_29 rfl hl (by decide) rfl (fun ls hl => ?_)
        have hl : lv_has ls 5 [(3, .int 0), (0, .ref (ad 0)), (1, .ref (ad (5 + q))), (2, .int (nI d))] := hl
        refine lv_iconst (v := nI 0) hx hb d_LT_leafEntries_30 (by decide) ?_
        refine lv_istore hx hb d_LT_leafEntries_31 hl (by decide) rfl (fun ls hl => ?_)
        have hl : lv_has ls 5 [(4, .int (nI 0)), (3, .int 0), (0, .ref (ad 0)), (1, .ref (ad (5 + q))), (2, .int (nI d))] := hl
        refine w_LT_leafEntries (g := fun i => lk_un M f (M 8 (5 * q + i)).toNatClampNeg) X hA rfl hq hd hc hn (fun i hi => ?_) ih ?_ n 0 (by omega) _ _ ls h hl
        · obtain ⟨c, e1, e2⟩ := hch i hi
          exact ⟨c, e1, e2, by show lk_un M f (M 8 (5 * q + i)).toNatClampNeg = _; rw [e1, lk_nI_nat (by have := (lk_tw_lt e2).1; omega)]⟩
        · exact ⟨by rw [lk_un_s, hc, lk_nI_nat (by omega)], rfl⟩
      · exact absurd ((nI_eq (b := 0) (by omega) (by omega)).mp h2) (by omega)
    · omega
set_option maxRecDepth 20000 in
theorem c_LT_under (l : Launch) (D : va_G) (τ : Nat → ClassId) (ad : Nat → Nat) (M : lk_M) (p f : Nat) (hp : p < 24) (hkd : M 0 p = 1) (hf : f < 24) (htw : lk_tw M f p) : lk_Ci l D τ 88 ad (lk_ce τ ad) y_LT_under b_LT_under 3 (.int) (f + 3) (24 * f + 65) [.ref (ad 0), .int (nI p)] M (fun r M1 => r = lk_un M f p ∧ M1 = M) := by
  refine lk_openi (by decide +kernel) (Nat.le_of_ble_eq_true rfl) ?_
  intro pg en s m args below meth cd ls A X h hA hl
  obtain ⟨hx, hb, -⟩ := id X
  have hl : lv_has ls 3 [(0, .ref (ad 0)), (1, .int (nI p))] := hl
  refine lv_aload_n hx hb d_LT_under_0 rfl (lv_at hl 0 rfl) ?_
  refine lv_iload_n hx hb d_LT_under_1 rfl (lv_at hl 1 rfl) ?_
  refine lk_goq (lk_runV (As := [.int (nI p)]) (C := R_LT) X h (c_LT_nodeAt l D τ ad _ p hp) ⟨gc_LT_nodeAt, gm_LT_148, gn_LT, gd_LT_nodeAt, by show 2 ≤ f + 3; omega, by show 8 + (2 + 11) + 20 ≤ 24 * f + 65; omega⟩ gi_LT_nodeAt gs_LT_nodeAt ⟨0, 0, _, _, _, lk_w_get (by decide), rfl⟩ rfl hl.1 (Nat.le_of_ble_eq_true rfl) d_LT_under_2 ⟨Nat.zero_le _, Nat.zero_le _⟩) h hA (fun r2 σ2 H locs hk9 h => ?_)
  rw [hk9.2] at h
  rw [hk9.1, show va_rf (some (ad (5 + p))) = .ref (ad (5 + p)) from rfl]
  refine lv_astore_n hx hb d_LT_under_5 rfl hl (by decide) rfl (fun ls hl => ?_)
  have hl : lv_has ls 3 [(2, .ref (ad (5 + p))), (0, .ref (ad 0)), (1, .int (nI p))] := hl
  refine lv_aload_n hx hb d_LT_under_6 rfl (lv_at hl 0 rfl) ?_
  refine ct_get X h (q0 := 5 + p) (by omega) (lk_ce_n (by omega)) rfl gl_ND 4 (by decide) rfl gf_LT_22 rfl d_LT_under_7 ?_
  refine lk_top 1 (hkd) ?_
  refine lv_iconst (v := 1) hx hb d_LT_under_10 (by decide) ?_
  refine lv_icmp_eq (tgt := 24) hx hb d_LT_under_11 (by decide) (fun _ => ?_) (fun z => absurd z (by decide))
  refine lv_aload_n hx hb d_LT_under_24 rfl (lv_at hl 1 rfl) ?_
  refine lv_aload_n hx hb d_LT_under_25 rfl (lv_at hl 0 rfl) ?_
  refine lv_iconst (v := nI 0) hx hb d_LT_under_26 (by decide) ?_
  refine lk_goi (lk_runV (As := [.ref (ad (5 + p)), .int (nI 0)]) (C := R_LT) X h (c_LT_leafEntries l D τ ad M f p 0 htw (by omega)) ⟨gc_LT_leafEntries, gm_LT_164, gn_LT, gd_LT_leafEntries, by show f + 2 + 1 ≤ f + 3; omega, by show 8 + (5 + 11) + (24 * f + 41) ≤ 24 * f + 65; omega⟩ gi_LT_leafEntries gs_LT_leafEntries ⟨0, 0, _, _, _, lk_w_get (by decide), rfl⟩ rfl hl.1 (Nat.le_of_ble_eq_true rfl) d_LT_under_27 ⟨Nat.zero_le _, Nat.zero_le _⟩) h hA (fun r27 σ27 H locs hk9 h => ?_)
  rw [hk9.2] at h
  rw [hk9.1]
  exact lk_reti X h d_LT_under_30 (⟨rfl, rfl⟩)
def cc_beg0 (M : lk_M) (t : Nat) (o k v : Int32) : lk_M :=
  lk_srch (lk_nop (lk_st (lk_st (lk_st (lk_st (lk_st M 11 t 0) 12 t o) 15 t k) 17 t v) 16 t 0) t) t (M 24 0)
set_option maxRecDepth 20000 in
theorem c_LT_begin (l : Launch) (D : va_G) (τ : Nat → ClassId) (ad : Nat → Nat) (M : lk_M) (t nq rt x : Nat) (ht : t < 4) (o k v : Int32) (hok : lk_bok (nI t) o k) (hbu : M 11 t = 1) (hnq : nq ≤ 12) (hq0 : M 24 1 = nI nq) (hrt : rt < 24) (hr0 : M 24 0 = nI rt) (hx0 : 0 < nq → x < 24 ∧ M 10 0 = nI x) : lk_Cv l D τ 88 ad (lk_ce τ ad) y_LT_begin b_LT_begin 6 3 67 [.ref (ad 0), .int (nI t), .int o, .int k, .int v] M (fun M1 => M1 = if o = 3 then cc_choose (cc_beg0 M t o k v) t nq rt x else cc_beg0 M t o k v) := by
  refine lk_openv (by decide +kernel) (Nat.le_of_ble_eq_true rfl) ?_
  intro pg en s m args below meth cd ls A X h hA hl
  obtain ⟨hx, hb, -⟩ := id X
  have hl : lv_has ls 6 [(0, .ref (ad 0)), (1, .int (nI t)), (2, .int o), (3, .int k), (4, .int v)] := hl
  obtain ⟨g1, ⟨g2, g3⟩, g4⟩ := hok
  refine lv_iload_n hx hb d_LT_begin_0 rfl (lv_at hl 1 rfl) ?_
  refine lk_goi (lk_runS (As := [.int (nI t)]) X h (c_LT_isTask l D τ ad M t ht) ⟨gc_LT_isTask, gm_LT_47, gn_LT, gd_LT_isTask, by decide, by decide⟩ gt_LT_isTask rfl hl.1 (Nat.le_of_ble_eq_true rfl) d_LT_begin_1 ⟨Nat.zero_le _, Nat.zero_le _⟩) h hA (fun r1 σ1 H locs hk9 h => ?_)
  rw [hk9.2] at h
  rw [hk9.1]
  refine lv_if_eq (tgt := 16) hx hb d_LT_begin_4 (by decide) (fun z => absurd z (by decide)) (fun _ => ?_)
  refine lv_iload_n hx hb d_LT_begin_7 rfl (lv_at hl 2 rfl) ?_
  refine lv_if_lt (tgt := 16) hx hb d_LT_begin_8 (by decide) (fun h8 => ?_) (fun h8 => ?_)
  · exact absurd g2 (Int32.not_le.mpr h8)
  · refine lv_iload_n hx hb d_LT_begin_11 rfl (lv_at hl 2 rfl) ?_
    refine lv_iconst (v := 3) hx hb d_LT_begin_12 (by decide) ?_
    refine lv_icmp_le (tgt := 26) hx hb d_LT_begin_13 (by decide) (fun h13 => ?_) (fun h13 => ?_)
    · refine lv_iload_n hx hb d_LT_begin_26 rfl (lv_at hl 2 rfl) ?_
      refine lv_iconst (v := 3) hx hb d_LT_begin_27 (by decide) ?_
      refine lv_icmp_eq (tgt := 52) hx hb d_LT_begin_28 (by decide) (fun h28 => ?_) (fun h28 => ?_)
      · refine lv_aload_n hx hb d_LT_begin_52 rfl (lv_at hl 0 rfl) ?_
        refine ct_get X h (q0 := 0) (by omega) rfl rfl gl_LT 2 (by decide) rfl gf_LT_28 rfl d_LT_begin_53 ?_
        refine lv_iload_n hx hb d_LT_begin_56 rfl (lv_at hl 1 rfl) ?_
        refine lt_taq X h (j := t) (by omega) d_LT_begin_57 ?_
        refine lv_astore hx hb d_LT_begin_58 hl (by decide) rfl (fun ls hl => ?_)
        have hl : lv_has ls 6 [(5, .ref (ad (80 + t))), (0, .ref (ad 0)), (1, .int (nI t)), (2, .int o), (3, .int k), (4, .int v)] := hl
        refine lv_aload hx hb d_LT_begin_60 (lv_at hl 0 rfl) ?_
        refine ct_get X h (q0 := 80 + t) (by omega) (lk_ce_t (by omega)) rfl gl_TA 2 (by decide) rfl gf_LT_60 rfl d_LT_begin_62 ?_
        refine lk_top 1 (hbu) ?_
        refine lv_if_ne (tgt := 78) hx hb d_LT_begin_65 (by decide) (fun _ => ?_) (fun z => absurd z (by decide))
        refine lv_aload hx hb d_LT_begin_78 (lv_at hl 0 rfl) ?_
        refine lv_iconst (v := 0) hx hb d_LT_begin_80 (by decide) ?_
        refine ta_put2 X h (t := t) (by decide) (by omega) gf_LT_60 d_LT_begin_81 (fun H locs h => ?_)
        refine lv_aload hx hb d_LT_begin_84 (lv_at hl 0 rfl) ?_
        refine lv_iload_n hx hb d_LT_begin_86 rfl (lv_at hl 3 rfl) ?_
        refine ta_put3 X h (t := t) (by omega) gf_LT_69 d_LT_begin_87 (fun H locs h => ?_)
        refine lv_aload hx hb d_LT_begin_90 (lv_at hl 0 rfl) ?_
        refine lv_iload_n hx hb d_LT_begin_92 rfl (lv_at hl 4 rfl) ?_
        refine ta_put6 X h (t := t) (by omega) gf_LT_72 d_LT_begin_93 (fun H locs h => ?_)
        refine lv_aload hx hb d_LT_begin_96 (lv_at hl 0 rfl) ?_
        refine lv_iload hx hb d_LT_begin_98 (lv_at hl 5 rfl) ?_
        refine ta_put7 X h (t := t) (by omega) gf_LT_75 d_LT_begin_100 (fun H locs h => ?_)
        refine lv_aload hx hb d_LT_begin_103 (lv_at hl 0 rfl) ?_
        refine lv_iconst (v := 0) hx hb d_LT_begin_105 (by decide) ?_
        refine ta_put8 X h (t := t) (by omega) gf_LT_78 d_LT_begin_106 (fun H locs h => ?_)
        refine lv_aload hx hb d_LT_begin_109 (lv_at hl 0 rfl) ?_
        refine lv_aload_n hx hb d_LT_begin_111 rfl (lv_at hl 1 rfl) ?_
        refine ct_get X h (q0 := 0) (by omega) rfl rfl gl_LT 4 (by decide) rfl gf_LT_40 rfl d_LT_begin_112 ?_
        refine lk_top (M 24 0) ((lk_st_f (by decide)).trans ((lk_st_f (by decide)).trans ((lk_st_f (by decide)).trans ((lk_st_f (by decide)).trans (lk_st_f (by decide)))))) ?_
        refine lk_gov (lk_runV (As := [.int (M 24 0)]) (C := R_TA) X h (c_TA_searchAnew l D τ ad _ t ht _) ⟨gc_TA_searchAnew, gm_LT_81, gn_TA, gd_TA_searchAnew, by decide, by decide⟩ gi_TA_searchAnew gs_TA_searchAnew ⟨80 + t, 2, _, _, _, by rw [lk_w_get (by omega), lk_ce_t (by omega)], rfl⟩ rfl hl.1 (Nat.le_of_ble_eq_true rfl) d_LT_begin_115 ⟨Nat.zero_le _, Nat.zero_le _⟩) h hA (fun σ115 H locs hk9 h => ?_)
        rw [hk9] at h
        refine lv_iload_n hx hb d_LT_begin_118 rfl (lv_at hl 3 rfl) ?_
        refine lv_iconst (v := 3) hx hb d_LT_begin_119 (by decide) ?_
        refine lv_icmp_ne (tgt := 129) hx hb d_LT_begin_120 (by decide) (fun h120 => ?_) (fun h120 => ?_)
        · exact lk_retv X h d_LT_begin_129 ((if_neg h120).symm)
        · refine lv_aload_n hx hb d_LT_begin_123 rfl (lv_at hl 1 rfl) ?_
          refine lv_aload hx hb d_LT_begin_124 (lv_at hl 0 rfl) ?_
          refine lk_gov (lk_runV (As := [.ref (ad (80 + t))]) (C := R_LT) X h (c_LT_chooseSmallPage l D τ ad _ t nq rt x ht hnq ((show cc_beg0 M t o k v 24 1 = M 24 1 from rfl).trans hq0) hrt ((show cc_beg0 M t o k v 24 0 = M 24 0 from rfl).trans hr0) (fun z => let ⟨z1, z2⟩ := hx0 z; ⟨z1, (show cc_beg0 M t o k v 10 0 = M 10 0 from rfl).trans z2⟩)) ⟨gc_LT_chooseSmallPage, gm_LT_84, gn_LT, gd_LT_chooseSmallPage, by decide, by decide⟩ gi_LT_chooseSmallPage gs_LT_chooseSmallPage ⟨0, 0, _, _, _, lk_w_get (by decide), rfl⟩ rfl hl.1 (Nat.le_of_ble_eq_true rfl) d_LT_begin_126 ⟨Nat.zero_le _, Nat.zero_le _⟩) h hA (fun σ126 H locs hk9 h => ?_)
          rw [hk9] at h
          exact lk_retv X h d_LT_begin_129 ((if_pos h120).symm)
      · obtain ⟨g5, g6⟩ := g4.resolve_left h28
        refine lv_iload_n hx hb d_LT_begin_31 rfl (lv_at hl 3 rfl) ?_
        refine lv_if_lt (tgt := 42) hx hb d_LT_begin_32 (by decide) (fun h32 => ?_) (fun h32 => ?_)
        · exact absurd g5 (Int32.not_le.mpr h32)
        · refine lv_iload_n hx hb d_LT_begin_35 rfl (lv_at hl 3 rfl) ?_
          refine lv_sipush (v := 999) hx hb d_LT_begin_36 (by decide) ?_
          refine lv_icmp_le (tgt := 52) hx hb d_LT_begin_39 (by decide) (fun h39 => ?_) (fun h39 => ?_)
          · refine lv_aload_n hx hb d_LT_begin_52 rfl (lv_at hl 0 rfl) ?_
            refine ct_get X h (q0 := 0) (by omega) rfl rfl gl_LT 2 (by decide) rfl gf_LT_28 rfl d_LT_begin_53 ?_
            refine lv_iload_n hx hb d_LT_begin_56 rfl (lv_at hl 1 rfl) ?_
            refine lt_taq X h (j := t) (by omega) d_LT_begin_57 ?_
            refine lv_astore hx hb d_LT_begin_58 hl (by decide) rfl (fun ls hl => ?_)
            have hl : lv_has ls 6 [(5, .ref (ad (80 + t))), (0, .ref (ad 0)), (1, .int (nI t)), (2, .int o), (3, .int k), (4, .int v)] := hl
            refine lv_aload hx hb d_LT_begin_60 (lv_at hl 0 rfl) ?_
            refine ct_get X h (q0 := 80 + t) (by omega) (lk_ce_t (by omega)) rfl gl_TA 2 (by decide) rfl gf_LT_60 rfl d_LT_begin_62 ?_
            refine lk_top 1 (hbu) ?_
            refine lv_if_ne (tgt := 78) hx hb d_LT_begin_65 (by decide) (fun _ => ?_) (fun z => absurd z (by decide))
            refine lv_aload hx hb d_LT_begin_78 (lv_at hl 0 rfl) ?_
            refine lv_iconst (v := 0) hx hb d_LT_begin_80 (by decide) ?_
            refine ta_put2 X h (t := t) (by decide) (by omega) gf_LT_60 d_LT_begin_81 (fun H locs h => ?_)
            refine lv_aload hx hb d_LT_begin_84 (lv_at hl 0 rfl) ?_
            refine lv_iload_n hx hb d_LT_begin_86 rfl (lv_at hl 3 rfl) ?_
            refine ta_put3 X h (t := t) (by omega) gf_LT_69 d_LT_begin_87 (fun H locs h => ?_)
            refine lv_aload hx hb d_LT_begin_90 (lv_at hl 0 rfl) ?_
            refine lv_iload_n hx hb d_LT_begin_92 rfl (lv_at hl 4 rfl) ?_
            refine ta_put6 X h (t := t) (by omega) gf_LT_72 d_LT_begin_93 (fun H locs h => ?_)
            refine lv_aload hx hb d_LT_begin_96 (lv_at hl 0 rfl) ?_
            refine lv_iload hx hb d_LT_begin_98 (lv_at hl 5 rfl) ?_
            refine ta_put7 X h (t := t) (by omega) gf_LT_75 d_LT_begin_100 (fun H locs h => ?_)
            refine lv_aload hx hb d_LT_begin_103 (lv_at hl 0 rfl) ?_
            refine lv_iconst (v := 0) hx hb d_LT_begin_105 (by decide) ?_
            refine ta_put8 X h (t := t) (by omega) gf_LT_78 d_LT_begin_106 (fun H locs h => ?_)
            refine lv_aload hx hb d_LT_begin_109 (lv_at hl 0 rfl) ?_
            refine lv_aload_n hx hb d_LT_begin_111 rfl (lv_at hl 1 rfl) ?_
            refine ct_get X h (q0 := 0) (by omega) rfl rfl gl_LT 4 (by decide) rfl gf_LT_40 rfl d_LT_begin_112 ?_
            refine lk_top (M 24 0) ((lk_st_f (by decide)).trans ((lk_st_f (by decide)).trans ((lk_st_f (by decide)).trans ((lk_st_f (by decide)).trans (lk_st_f (by decide)))))) ?_
            refine lk_gov (lk_runV (As := [.int (M 24 0)]) (C := R_TA) X h (c_TA_searchAnew l D τ ad _ t ht _) ⟨gc_TA_searchAnew, gm_LT_81, gn_TA, gd_TA_searchAnew, by decide, by decide⟩ gi_TA_searchAnew gs_TA_searchAnew ⟨80 + t, 2, _, _, _, by rw [lk_w_get (by omega), lk_ce_t (by omega)], rfl⟩ rfl hl.1 (Nat.le_of_ble_eq_true rfl) d_LT_begin_115 ⟨Nat.zero_le _, Nat.zero_le _⟩) h hA (fun σ115 H locs hk9 h => ?_)
            rw [hk9] at h
            refine lv_iload_n hx hb d_LT_begin_118 rfl (lv_at hl 3 rfl) ?_
            refine lv_iconst (v := 3) hx hb d_LT_begin_119 (by decide) ?_
            refine lv_icmp_ne (tgt := 129) hx hb d_LT_begin_120 (by decide) (fun h120 => ?_) (fun h120 => ?_)
            · exact lk_retv X h d_LT_begin_129 ((if_neg h120).symm)
            · refine lv_aload_n hx hb d_LT_begin_123 rfl (lv_at hl 1 rfl) ?_
              refine lv_aload hx hb d_LT_begin_124 (lv_at hl 0 rfl) ?_
              refine lk_gov (lk_runV (As := [.ref (ad (80 + t))]) (C := R_LT) X h (c_LT_chooseSmallPage l D τ ad _ t nq rt x ht hnq ((show cc_beg0 M t o k v 24 1 = M 24 1 from rfl).trans hq0) hrt ((show cc_beg0 M t o k v 24 0 = M 24 0 from rfl).trans hr0) (fun z => let ⟨z1, z2⟩ := hx0 z; ⟨z1, (show cc_beg0 M t o k v 10 0 = M 10 0 from rfl).trans z2⟩)) ⟨gc_LT_chooseSmallPage, gm_LT_84, gn_LT, gd_LT_chooseSmallPage, by decide, by decide⟩ gi_LT_chooseSmallPage gs_LT_chooseSmallPage ⟨0, 0, _, _, _, lk_w_get (by decide), rfl⟩ rfl hl.1 (Nat.le_of_ble_eq_true rfl) d_LT_begin_126 ⟨Nat.zero_le _, Nat.zero_le _⟩) h hA (fun σ126 H locs hk9 h => ?_)
              rw [hk9] at h
              exact lk_retv X h d_LT_begin_129 ((if_pos h120).symm)
          · exact absurd g6 h39
    · exact absurd g3 h13
set_option maxRecDepth 20000 in
theorem c_LT_step (l : Launch) (D : va_G) (τ : Nat → ClassId) (ad : Nat → Nat) (M : lk_M) (t p n v rt nq x a b na nb : Nat) (hbu : M 11 t = 0) (hph : M 13 t = 0 ∨ M 13 t = 1 ∨ M 13 t = 2) (hh : cc_spre M t p n v rt nq x a b na nb) : lk_Ci l D τ 88 ad (lk_ce τ ad) y_LT_step b_LT_step 4 (.int) 6 140 [.ref (ad 0), .int (nI t)] M (fun r M1 => r = (cc_step0 M t p n v rt nq x a b na nb).1 ∧ M1 = mm_cnt (cc_step0 M t p n v rt nq x a b na nb) t) := by
  refine lk_openi (by decide +kernel) (Nat.le_of_ble_eq_true rfl) ?_
  intro pg en s m args below meth cd ls A X h hA hl
  obtain ⟨hx, hb, -⟩ := id X
  have hl : lv_has ls 4 [(0, .ref (ad 0)), (1, .int (nI t))] := hl
  have ht := hh.1
  refine lv_iload_n hx hb d_LT_step_0 rfl (lv_at hl 1 rfl) ?_
  refine lk_goi (lk_runS (As := [.int (nI t)]) X h (c_LT_isTask l D τ ad M t ht) ⟨gc_LT_isTask, gm_LT_47, gn_LT, gd_LT_isTask, by decide, by decide⟩ gt_LT_isTask rfl hl.1 (Nat.le_of_ble_eq_true rfl) d_LT_step_1 ⟨Nat.zero_le _, Nat.zero_le _⟩) h hA (fun r1 σ1 H locs hk9 h => ?_)
  rw [hk9.2] at h
  rw [hk9.1]
  refine lv_if_ne (tgt := 17) hx hb d_LT_step_4 (by decide) (fun _ => ?_) (fun z => absurd z (by decide))
  refine lv_aload_n hx hb d_LT_step_17 rfl (lv_at hl 0 rfl) ?_
  refine ct_get X h (q0 := 0) (by omega) rfl rfl gl_LT 2 (by decide) rfl gf_LT_28 rfl d_LT_step_18 ?_
  refine lv_iload_n hx hb d_LT_step_21 rfl (lv_at hl 1 rfl) ?_
  refine lt_taq X h (j := t) (by omega) d_LT_step_22 ?_
  refine lv_astore_n hx hb d_LT_step_23 rfl hl (by decide) rfl (fun ls hl => ?_)
  have hl : lv_has ls 4 [(2, .ref (ad (80 + t))), (0, .ref (ad 0)), (1, .int (nI t))] := hl
  refine lv_aload_n hx hb d_LT_step_24 rfl (lv_at hl 0 rfl) ?_
  refine ct_get X h (q0 := 80 + t) (by omega) (lk_ce_t (by omega)) rfl gl_TA 2 (by decide) rfl gf_LT_60 rfl d_LT_step_25 ?_
  refine lk_top 0 (hbu) ?_
  refine lv_if_eq (tgt := 41) hx hb d_LT_step_28 (by decide) (fun _ => ?_) (fun z => absurd z (by decide))
  refine lv_aload_n hx hb d_LT_step_41 rfl (lv_at hl 1 rfl) ?_
  refine lv_aload_n hx hb d_LT_step_42 rfl (lv_at hl 0 rfl) ?_
  refine lk_goi (lk_runV (As := [.ref (ad (80 + t))]) (C := R_LT) X h (c_LT_advance l D τ ad M t p n v rt nq x a b na nb hph hh) ⟨gc_LT_advance, gm_LT_92, gn_LT, gd_LT_advance, by decide, by decide⟩ gi_LT_advance gs_LT_advance ⟨0, 0, _, _, _, lk_w_get (by decide), rfl⟩ rfl hl.1 (Nat.le_of_ble_eq_true rfl) d_LT_step_43 ⟨Nat.zero_le _, Nat.zero_le _⟩) h hA (fun r43 σ43 H locs hk9 h => ?_)
  rw [hk9.2] at h
  rw [hk9.1]
  refine lv_istore_n hx hb d_LT_step_46 rfl hl (by decide) rfl (fun ls hl => ?_)
  have hl : lv_has ls 4 [(3, .int ((cc_step0 M t p n v rt nq x a b na nb).1)), (2, .ref (ad (80 + t))), (0, .ref (ad 0)), (1, .int (nI t))] := hl
  refine lv_aload_n hx hb d_LT_step_47 rfl (lv_at hl 1 rfl) ?_
  refine lv_dup hx hb d_LT_step_48 rfl ?_
  refine ct_get X h (q0 := 80 + t) (by omega) (lk_ce_t (by omega)) rfl gl_TA 12 (by decide) rfl gf_LT_96 rfl d_LT_step_49 ?_
  refine lv_iconst (v := 1) hx hb d_LT_step_52 (by decide) ?_
  refine lv_iadd hx hb d_LT_step_53 ?_
  refine ta_put12 X h (t := t) (by omega) gf_LT_96 d_LT_step_54 (fun H locs h => ?_)
  refine lv_iload_n hx hb d_LT_step_57 rfl (lv_at hl 0 rfl) ?_
  refine lv_iconst (v := 1) hx hb d_LT_step_58 (by decide) ?_
  refine lv_icmp_ne (tgt := 72) hx hb d_LT_step_59 (by decide) (fun h59 => ?_) (fun h59 => ?_)
  · refine lv_iload_n hx hb d_LT_step_72 rfl (lv_at hl 0 rfl) ?_
    exact lk_reti X h d_LT_step_73 (by rw [mm_cnt, if_neg h59]; exact ⟨rfl, rfl⟩)
  · refine lv_aload_n hx hb d_LT_step_62 rfl (lv_at hl 1 rfl) ?_
    refine lv_dup hx hb d_LT_step_63 rfl ?_
    refine ct_get X h (q0 := 80 + t) (by omega) (lk_ce_t (by omega)) rfl gl_TA 13 (by decide) rfl gf_LT_99 rfl d_LT_step_64 ?_
    refine lk_top (((cc_step0 M t p n v rt nq x a b na nb).2) 22 (4 * t + 1)) (lk_st_p (by omega)) ?_
    refine lv_iconst (v := 1) hx hb d_LT_step_67 (by decide) ?_
    refine lv_iadd hx hb d_LT_step_68 ?_
    refine ta_put13 X h (t := t) (by omega) gf_LT_99 d_LT_step_69 (fun H locs h => ?_)
    refine lv_iload_n hx hb d_LT_step_72 rfl (lv_at hl 0 rfl) ?_
    exact lk_reti X h d_LT_step_73 (by rw [mm_cnt, if_pos h59]; exact ⟨rfl, rfl⟩)
set_option maxRecDepth 20000 in
theorem c_LT_answer (l : Launch) (D : va_G) (τ : Nat → ClassId) (ad : Nat → Nat) (M : lk_M) (t : Nat) (ht : t < 4) (hbu : M 20 t = 1) : lk_Ci l D τ 88 ad (lk_ce τ ad) y_LT_answer b_LT_answer 3 (.int) 1 20 [.ref (ad 0), .int (nI t)] M (fun r M1 => r = M 21 t ∧ M1 = M) := by
  refine lk_openi (by decide +kernel) (Nat.le_of_ble_eq_true rfl) ?_
  intro pg en s m args below meth cd ls A X h hA hl
  obtain ⟨hx, hb, -⟩ := id X
  have hl : lv_has ls 3 [(0, .ref (ad 0)), (1, .int (nI t))] := hl
  refine lv_iload_n hx hb d_LT_answer_0 rfl (lv_at hl 1 rfl) ?_
  refine lk_goi (lk_runS (As := [.int (nI t)]) X h (c_LT_isTask l D τ ad M t ht) ⟨gc_LT_isTask, gm_LT_47, gn_LT, gd_LT_isTask, by decide, by decide⟩ gt_LT_isTask rfl hl.1 (Nat.le_of_ble_eq_true rfl) d_LT_answer_1 ⟨Nat.zero_le _, Nat.zero_le _⟩) h hA (fun r1 σ1 H locs hk9 h => ?_)
  rw [hk9.2] at h
  rw [hk9.1]
  refine lv_if_ne (tgt := 17) hx hb d_LT_answer_4 (by decide) (fun _ => ?_) (fun z => absurd z (by decide))
  refine lv_aload_n hx hb d_LT_answer_17 rfl (lv_at hl 0 rfl) ?_
  refine ct_get X h (q0 := 0) (by omega) rfl rfl gl_LT 2 (by decide) rfl gf_LT_28 rfl d_LT_answer_18 ?_
  refine lv_iload_n hx hb d_LT_answer_21 rfl (lv_at hl 1 rfl) ?_
  refine lt_taq X h (j := t) (by omega) d_LT_answer_22 ?_
  refine lv_astore_n hx hb d_LT_answer_23 rfl hl (by decide) rfl (fun ls hl => ?_)
  have hl : lv_has ls 3 [(2, .ref (ad (80 + t))), (0, .ref (ad 0)), (1, .int (nI t))] := hl
  refine lv_aload_n hx hb d_LT_answer_24 rfl (lv_at hl 0 rfl) ?_
  refine ct_get X h (q0 := 80 + t) (by omega) (lk_ce_t (by omega)) rfl gl_TA 10 (by decide) rfl gf_LT_102 rfl d_LT_answer_25 ?_
  refine lk_top 1 (hbu) ?_
  refine lv_if_ne (tgt := 41) hx hb d_LT_answer_28 (by decide) (fun _ => ?_) (fun z => absurd z (by decide))
  refine lv_aload_n hx hb d_LT_answer_41 rfl (lv_at hl 0 rfl) ?_
  refine ct_get X h (q0 := 80 + t) (by omega) (lk_ce_t (by omega)) rfl gl_TA 11 (by decide) rfl gf_LT_110 rfl d_LT_answer_42 ?_
  exact lk_reti X h d_LT_answer_45 (⟨rfl, rfl⟩)
def cc_look (M : lk_M) (t w : Nat) : Int32 := if w = 0 then (if M 11 t = 0 then 0 else 1) else if w = 5 then M 22 (4 * t) else if w = 6 then M 22 (4 * t + 1) else if w = 7 then M 22 (4 * t + 2) else if w = 8 then M 22 (4 * t + 3) else if M 11 t = 0 then (if w = 1 then M 13 t else if w = 2 then M 14 t else if w = 3 then M 15 t else M 16 t) else -1
set_option maxRecDepth 20000 in
theorem c_LT_look (l : Launch) (D : va_G) (τ : Nat → ClassId) (ad : Nat → Nat) (M : lk_M) (t w : Nat) (ht : t < 4) (hw : w ≤ 8) : lk_Ci l D τ 88 ad (lk_ce τ ad) y_LT_look b_LT_look 4 (.int) 1 20 [.ref (ad 0), .int (nI t), .int (nI w)] M (fun r M1 => r = cc_look M t w ∧ M1 = M) := by
  refine lk_openi (by decide +kernel) (Nat.le_of_ble_eq_true rfl) ?_
  intro pg en s m args below meth cd ls A X h hA hl
  obtain ⟨hx, hb, -⟩ := id X
  have hl : lv_has ls 4 [(0, .ref (ad 0)), (1, .int (nI t)), (2, .int (nI w))] := hl
  obtain rfl | rfl | rfl | rfl | rfl | rfl | rfl | rfl | rfl : w = 0 ∨ w = 1 ∨ w = 2 ∨ w = 3 ∨ w = 4 ∨ w = 5 ∨ w = 6 ∨ w = 7 ∨ w = 8 := by omega
  · refine lv_iload_n hx hb d_LT_look_0 rfl (lv_at hl 1 rfl) ?_
    refine lk_goi (lk_runS (As := [.int (nI t)]) X h (c_LT_isTask l D τ ad M t ht) ⟨gc_LT_isTask, gm_LT_47, gn_LT, gd_LT_isTask, by decide, by decide⟩ gt_LT_isTask rfl hl.1 (Nat.le_of_ble_eq_true rfl) d_LT_look_1 ⟨Nat.zero_le _, Nat.zero_le _⟩) h hA (fun r1 σ1 H locs hk9 h => ?_)
    rw [hk9.2] at h
    rw [hk9.1]
    refine lv_if_eq (tgt := 17) hx hb d_LT_look_4 (by decide) (fun z => absurd z (by decide)) (fun _ => ?_)
    refine lv_iload_n hx hb d_LT_look_7 rfl (lv_at hl 2 rfl) ?_
    refine lv_if_lt (tgt := 17) hx hb d_LT_look_8 (by decide) (fun z => absurd z (by decide)) (fun _ => ?_)
    refine lv_iload_n hx hb d_LT_look_11 rfl (lv_at hl 2 rfl) ?_
    refine lv_bipush (v := nI 8) hx hb d_LT_look_12 (by decide) ?_
    refine lv_icmp_le (tgt := 27) hx hb d_LT_look_14 (by decide) (fun _ => ?_) (fun z => absurd z (by decide))
    refine lv_aload_n hx hb d_LT_look_27 rfl (lv_at hl 0 rfl) ?_
    refine ct_get X h (q0 := 0) (by omega) rfl rfl gl_LT 2 (by decide) rfl gf_LT_28 rfl d_LT_look_28 ?_
    refine lv_iload_n hx hb d_LT_look_31 rfl (lv_at hl 1 rfl) ?_
    refine lt_taq X h (j := t) (by omega) d_LT_look_32 ?_
    refine lv_astore_n hx hb d_LT_look_33 rfl hl (by decide) rfl (fun ls hl => ?_)
    have hl : lv_has ls 4 [(3, .ref (ad (80 + t))), (0, .ref (ad 0)), (1, .int (nI t)), (2, .int (nI 0))] := hl
    refine lv_aload_n hx hb d_LT_look_34 rfl (lv_at hl 0 rfl) ?_
    refine ct_get X h (q0 := 80 + t) (by omega) (lk_ce_t (by omega)) rfl gl_TA 2 (by decide) rfl gf_LT_60 rfl d_LT_look_35 ?_
    refine lv_if_eq (tgt := 53) hx hb d_LT_look_38 (by decide) (fun h38 => ?_) (fun h38 => ?_)
    · refine lv_iload_n hx hb d_LT_look_53 rfl (lv_at hl 3 rfl) ?_
      refine lv_tableIn (tgt := 100) hx hb d_LT_look_54 (by decide) (by decide) rfl (by decide) ?_
      refine lv_aload_n hx hb d_LT_look_100 rfl (lv_at hl 0 rfl) ?_
      refine ct_get X h (q0 := 80 + t) (by omega) (lk_ce_t (by omega)) rfl gl_TA 2 (by decide) rfl gf_LT_60 rfl d_LT_look_101 ?_
      refine lv_if_eq (tgt := 111) hx hb d_LT_look_104 (by decide) (fun h104 => ?_) (fun h104 => ?_)
      · refine lv_iconst (v := 0) hx hb d_LT_look_111 (by decide) ?_
        exact lk_reti X h d_LT_look_112 (⟨by simp [cc_look, h38], rfl⟩)
      · exact absurd h38 h104
    · refine lv_iload_n hx hb d_LT_look_41 rfl (lv_at hl 3 rfl) ?_
      refine lv_iconst (v := nI 1) hx hb d_LT_look_42 (by decide) ?_
      refine lv_icmp_lt (tgt := 53) hx hb d_LT_look_43 (by decide) (fun _ => ?_) (fun z => absurd z (by decide))
      refine lv_iload_n hx hb d_LT_look_53 rfl (lv_at hl 3 rfl) ?_
      refine lv_tableIn (tgt := 100) hx hb d_LT_look_54 (by decide) (by decide) rfl (by decide) ?_
      refine lv_aload_n hx hb d_LT_look_100 rfl (lv_at hl 0 rfl) ?_
      refine ct_get X h (q0 := 80 + t) (by omega) (lk_ce_t (by omega)) rfl gl_TA 2 (by decide) rfl gf_LT_60 rfl d_LT_look_101 ?_
      refine lv_if_eq (tgt := 111) hx hb d_LT_look_104 (by decide) (fun h104 => ?_) (fun h104 => ?_)
      · exact absurd h104 h38
      · refine lv_iconst (v := 1) hx hb d_LT_look_107 (by decide) ?_
        refine lv_goto (tgt := 112) hx hb d_LT_look_108 (by decide) ?_
        exact lk_reti X h d_LT_look_112 (⟨by simp [cc_look, h38], rfl⟩)
  · refine lv_iload_n hx hb d_LT_look_0 rfl (lv_at hl 1 rfl) ?_
    refine lk_goi (lk_runS (As := [.int (nI t)]) X h (c_LT_isTask l D τ ad M t ht) ⟨gc_LT_isTask, gm_LT_47, gn_LT, gd_LT_isTask, by decide, by decide⟩ gt_LT_isTask rfl hl.1 (Nat.le_of_ble_eq_true rfl) d_LT_look_1 ⟨Nat.zero_le _, Nat.zero_le _⟩) h hA (fun r1 σ1 H locs hk9 h => ?_)
    rw [hk9.2] at h
    rw [hk9.1]
    refine lv_if_eq (tgt := 17) hx hb d_LT_look_4 (by decide) (fun z => absurd z (by decide)) (fun _ => ?_)
    refine lv_iload_n hx hb d_LT_look_7 rfl (lv_at hl 2 rfl) ?_
    refine lv_if_lt (tgt := 17) hx hb d_LT_look_8 (by decide) (fun z => absurd z (by decide)) (fun _ => ?_)
    refine lv_iload_n hx hb d_LT_look_11 rfl (lv_at hl 2 rfl) ?_
    refine lv_bipush (v := nI 8) hx hb d_LT_look_12 (by decide) ?_
    refine lv_icmp_le (tgt := 27) hx hb d_LT_look_14 (by decide) (fun _ => ?_) (fun z => absurd z (by decide))
    refine lv_aload_n hx hb d_LT_look_27 rfl (lv_at hl 0 rfl) ?_
    refine ct_get X h (q0 := 0) (by omega) rfl rfl gl_LT 2 (by decide) rfl gf_LT_28 rfl d_LT_look_28 ?_
    refine lv_iload_n hx hb d_LT_look_31 rfl (lv_at hl 1 rfl) ?_
    refine lt_taq X h (j := t) (by omega) d_LT_look_32 ?_
    refine lv_astore_n hx hb d_LT_look_33 rfl hl (by decide) rfl (fun ls hl => ?_)
    have hl : lv_has ls 4 [(3, .ref (ad (80 + t))), (0, .ref (ad 0)), (1, .int (nI t)), (2, .int (nI 1))] := hl
    refine lv_aload_n hx hb d_LT_look_34 rfl (lv_at hl 0 rfl) ?_
    refine ct_get X h (q0 := 80 + t) (by omega) (lk_ce_t (by omega)) rfl gl_TA 2 (by decide) rfl gf_LT_60 rfl d_LT_look_35 ?_
    refine lv_if_eq (tgt := 53) hx hb d_LT_look_38 (by decide) (fun h38 => ?_) (fun h38 => ?_)
    · refine lv_iload_n hx hb d_LT_look_53 rfl (lv_at hl 3 rfl) ?_
      refine lv_tableIn (tgt := 113) hx hb d_LT_look_54 (by decide) (by decide) rfl (by decide) ?_
      refine lv_aload_n hx hb d_LT_look_113 rfl (lv_at hl 0 rfl) ?_
      refine ct_get X h (q0 := 80 + t) (by omega) (lk_ce_t (by omega)) rfl gl_TA 4 (by decide) rfl gf_LT_115 rfl d_LT_look_114 ?_
      exact lk_reti X h d_LT_look_117 (⟨by simp [cc_look, h38], rfl⟩)
    · refine lv_iload_n hx hb d_LT_look_41 rfl (lv_at hl 3 rfl) ?_
      refine lv_iconst (v := nI 1) hx hb d_LT_look_42 (by decide) ?_
      refine lv_icmp_lt (tgt := 53) hx hb d_LT_look_43 (by decide) (fun z => absurd z (by decide)) (fun _ => ?_)
      refine lv_iload_n hx hb d_LT_look_46 rfl (lv_at hl 3 rfl) ?_
      refine lv_iconst (v := nI 4) hx hb d_LT_look_47 (by decide) ?_
      refine lv_icmp_gt (tgt := 53) hx hb d_LT_look_48 (by decide) (fun z => absurd z (by decide)) (fun _ => ?_)
      refine lv_iconst (v := (-1)) hx hb d_LT_look_51 (by decide) ?_
      exact lk_reti X h d_LT_look_52 (⟨by simp [cc_look, h38], rfl⟩)
  · refine lv_iload_n hx hb d_LT_look_0 rfl (lv_at hl 1 rfl) ?_
    refine lk_goi (lk_runS (As := [.int (nI t)]) X h (c_LT_isTask l D τ ad M t ht) ⟨gc_LT_isTask, gm_LT_47, gn_LT, gd_LT_isTask, by decide, by decide⟩ gt_LT_isTask rfl hl.1 (Nat.le_of_ble_eq_true rfl) d_LT_look_1 ⟨Nat.zero_le _, Nat.zero_le _⟩) h hA (fun r1 σ1 H locs hk9 h => ?_)
    rw [hk9.2] at h
    rw [hk9.1]
    refine lv_if_eq (tgt := 17) hx hb d_LT_look_4 (by decide) (fun z => absurd z (by decide)) (fun _ => ?_)
    refine lv_iload_n hx hb d_LT_look_7 rfl (lv_at hl 2 rfl) ?_
    refine lv_if_lt (tgt := 17) hx hb d_LT_look_8 (by decide) (fun z => absurd z (by decide)) (fun _ => ?_)
    refine lv_iload_n hx hb d_LT_look_11 rfl (lv_at hl 2 rfl) ?_
    refine lv_bipush (v := nI 8) hx hb d_LT_look_12 (by decide) ?_
    refine lv_icmp_le (tgt := 27) hx hb d_LT_look_14 (by decide) (fun _ => ?_) (fun z => absurd z (by decide))
    refine lv_aload_n hx hb d_LT_look_27 rfl (lv_at hl 0 rfl) ?_
    refine ct_get X h (q0 := 0) (by omega) rfl rfl gl_LT 2 (by decide) rfl gf_LT_28 rfl d_LT_look_28 ?_
    refine lv_iload_n hx hb d_LT_look_31 rfl (lv_at hl 1 rfl) ?_
    refine lt_taq X h (j := t) (by omega) d_LT_look_32 ?_
    refine lv_astore_n hx hb d_LT_look_33 rfl hl (by decide) rfl (fun ls hl => ?_)
    have hl : lv_has ls 4 [(3, .ref (ad (80 + t))), (0, .ref (ad 0)), (1, .int (nI t)), (2, .int (nI 2))] := hl
    refine lv_aload_n hx hb d_LT_look_34 rfl (lv_at hl 0 rfl) ?_
    refine ct_get X h (q0 := 80 + t) (by omega) (lk_ce_t (by omega)) rfl gl_TA 2 (by decide) rfl gf_LT_60 rfl d_LT_look_35 ?_
    refine lv_if_eq (tgt := 53) hx hb d_LT_look_38 (by decide) (fun h38 => ?_) (fun h38 => ?_)
    · refine lv_iload_n hx hb d_LT_look_53 rfl (lv_at hl 3 rfl) ?_
      refine lv_tableIn (tgt := 118) hx hb d_LT_look_54 (by decide) (by decide) rfl (by decide) ?_
      refine lv_aload_n hx hb d_LT_look_118 rfl (lv_at hl 0 rfl) ?_
      refine ct_get X h (q0 := 80 + t) (by omega) (lk_ce_t (by omega)) rfl gl_TA 5 (by decide) rfl gf_LT_118 rfl d_LT_look_119 ?_
      exact lk_reti X h d_LT_look_122 (⟨by simp [cc_look, h38], rfl⟩)
    · refine lv_iload_n hx hb d_LT_look_41 rfl (lv_at hl 3 rfl) ?_
      refine lv_iconst (v := nI 1) hx hb d_LT_look_42 (by decide) ?_
      refine lv_icmp_lt (tgt := 53) hx hb d_LT_look_43 (by decide) (fun z => absurd z (by decide)) (fun _ => ?_)
      refine lv_iload_n hx hb d_LT_look_46 rfl (lv_at hl 3 rfl) ?_
      refine lv_iconst (v := nI 4) hx hb d_LT_look_47 (by decide) ?_
      refine lv_icmp_gt (tgt := 53) hx hb d_LT_look_48 (by decide) (fun z => absurd z (by decide)) (fun _ => ?_)
      refine lv_iconst (v := (-1)) hx hb d_LT_look_51 (by decide) ?_
      exact lk_reti X h d_LT_look_52 (⟨by simp [cc_look, h38], rfl⟩)
  · refine lv_iload_n hx hb d_LT_look_0 rfl (lv_at hl 1 rfl) ?_
    refine lk_goi (lk_runS (As := [.int (nI t)]) X h (c_LT_isTask l D τ ad M t ht) ⟨gc_LT_isTask, gm_LT_47, gn_LT, gd_LT_isTask, by decide, by decide⟩ gt_LT_isTask rfl hl.1 (Nat.le_of_ble_eq_true rfl) d_LT_look_1 ⟨Nat.zero_le _, Nat.zero_le _⟩) h hA (fun r1 σ1 H locs hk9 h => ?_)
    rw [hk9.2] at h
    rw [hk9.1]
    refine lv_if_eq (tgt := 17) hx hb d_LT_look_4 (by decide) (fun z => absurd z (by decide)) (fun _ => ?_)
    refine lv_iload_n hx hb d_LT_look_7 rfl (lv_at hl 2 rfl) ?_
    refine lv_if_lt (tgt := 17) hx hb d_LT_look_8 (by decide) (fun z => absurd z (by decide)) (fun _ => ?_)
    refine lv_iload_n hx hb d_LT_look_11 rfl (lv_at hl 2 rfl) ?_
    refine lv_bipush (v := nI 8) hx hb d_LT_look_12 (by decide) ?_
    refine lv_icmp_le (tgt := 27) hx hb d_LT_look_14 (by decide) (fun _ => ?_) (fun z => absurd z (by decide))
    refine lv_aload_n hx hb d_LT_look_27 rfl (lv_at hl 0 rfl) ?_
    refine ct_get X h (q0 := 0) (by omega) rfl rfl gl_LT 2 (by decide) rfl gf_LT_28 rfl d_LT_look_28 ?_
    refine lv_iload_n hx hb d_LT_look_31 rfl (lv_at hl 1 rfl) ?_
    refine lt_taq X h (j := t) (by omega) d_LT_look_32 ?_
    refine lv_astore_n hx hb d_LT_look_33 rfl hl (by decide) rfl (fun ls hl => ?_)
    have hl : lv_has ls 4 [(3, .ref (ad (80 + t))), (0, .ref (ad 0)), (1, .int (nI t)), (2, .int (nI 3))] := hl
    refine lv_aload_n hx hb d_LT_look_34 rfl (lv_at hl 0 rfl) ?_
    refine ct_get X h (q0 := 80 + t) (by omega) (lk_ce_t (by omega)) rfl gl_TA 2 (by decide) rfl gf_LT_60 rfl d_LT_look_35 ?_
    refine lv_if_eq (tgt := 53) hx hb d_LT_look_38 (by decide) (fun h38 => ?_) (fun h38 => ?_)
    · refine lv_iload_n hx hb d_LT_look_53 rfl (lv_at hl 3 rfl) ?_
      refine lv_tableIn (tgt := 123) hx hb d_LT_look_54 (by decide) (by decide) rfl (by decide) ?_
      refine lv_aload_n hx hb d_LT_look_123 rfl (lv_at hl 0 rfl) ?_
      refine ct_get X h (q0 := 80 + t) (by omega) (lk_ce_t (by omega)) rfl gl_TA 6 (by decide) rfl gf_LT_72 rfl d_LT_look_124 ?_
      exact lk_reti X h d_LT_look_127 (⟨by simp [cc_look, h38], rfl⟩)
    · refine lv_iload_n hx hb d_LT_look_41 rfl (lv_at hl 3 rfl) ?_
      refine lv_iconst (v := nI 1) hx hb d_LT_look_42 (by decide) ?_
      refine lv_icmp_lt (tgt := 53) hx hb d_LT_look_43 (by decide) (fun z => absurd z (by decide)) (fun _ => ?_)
      refine lv_iload_n hx hb d_LT_look_46 rfl (lv_at hl 3 rfl) ?_
      refine lv_iconst (v := nI 4) hx hb d_LT_look_47 (by decide) ?_
      refine lv_icmp_gt (tgt := 53) hx hb d_LT_look_48 (by decide) (fun z => absurd z (by decide)) (fun _ => ?_)
      refine lv_iconst (v := (-1)) hx hb d_LT_look_51 (by decide) ?_
      exact lk_reti X h d_LT_look_52 (⟨by simp [cc_look, h38], rfl⟩)
  · refine lv_iload_n hx hb d_LT_look_0 rfl (lv_at hl 1 rfl) ?_
    refine lk_goi (lk_runS (As := [.int (nI t)]) X h (c_LT_isTask l D τ ad M t ht) ⟨gc_LT_isTask, gm_LT_47, gn_LT, gd_LT_isTask, by decide, by decide⟩ gt_LT_isTask rfl hl.1 (Nat.le_of_ble_eq_true rfl) d_LT_look_1 ⟨Nat.zero_le _, Nat.zero_le _⟩) h hA (fun r1 σ1 H locs hk9 h => ?_)
    rw [hk9.2] at h
    rw [hk9.1]
    refine lv_if_eq (tgt := 17) hx hb d_LT_look_4 (by decide) (fun z => absurd z (by decide)) (fun _ => ?_)
    refine lv_iload_n hx hb d_LT_look_7 rfl (lv_at hl 2 rfl) ?_
    refine lv_if_lt (tgt := 17) hx hb d_LT_look_8 (by decide) (fun z => absurd z (by decide)) (fun _ => ?_)
    refine lv_iload_n hx hb d_LT_look_11 rfl (lv_at hl 2 rfl) ?_
    refine lv_bipush (v := nI 8) hx hb d_LT_look_12 (by decide) ?_
    refine lv_icmp_le (tgt := 27) hx hb d_LT_look_14 (by decide) (fun _ => ?_) (fun z => absurd z (by decide))
    refine lv_aload_n hx hb d_LT_look_27 rfl (lv_at hl 0 rfl) ?_
    refine ct_get X h (q0 := 0) (by omega) rfl rfl gl_LT 2 (by decide) rfl gf_LT_28 rfl d_LT_look_28 ?_
    refine lv_iload_n hx hb d_LT_look_31 rfl (lv_at hl 1 rfl) ?_
    refine lt_taq X h (j := t) (by omega) d_LT_look_32 ?_
    refine lv_astore_n hx hb d_LT_look_33 rfl hl (by decide) rfl (fun ls hl => ?_)
    have hl : lv_has ls 4 [(3, .ref (ad (80 + t))), (0, .ref (ad 0)), (1, .int (nI t)), (2, .int (nI 4))] := hl
    refine lv_aload_n hx hb d_LT_look_34 rfl (lv_at hl 0 rfl) ?_
    refine ct_get X h (q0 := 80 + t) (by omega) (lk_ce_t (by omega)) rfl gl_TA 2 (by decide) rfl gf_LT_60 rfl d_LT_look_35 ?_
    refine lv_if_eq (tgt := 53) hx hb d_LT_look_38 (by decide) (fun h38 => ?_) (fun h38 => ?_)
    · refine lv_iload_n hx hb d_LT_look_53 rfl (lv_at hl 3 rfl) ?_
      refine lv_tableIn (tgt := 128) hx hb d_LT_look_54 (by decide) (by decide) rfl (by decide) ?_
      refine lv_aload_n hx hb d_LT_look_128 rfl (lv_at hl 0 rfl) ?_
      refine ct_get X h (q0 := 80 + t) (by omega) (lk_ce_t (by omega)) rfl gl_TA 8 (by decide) rfl gf_LT_78 rfl d_LT_look_129 ?_
      exact lk_reti X h d_LT_look_132 (⟨by simp [cc_look, h38], rfl⟩)
    · refine lv_iload_n hx hb d_LT_look_41 rfl (lv_at hl 3 rfl) ?_
      refine lv_iconst (v := nI 1) hx hb d_LT_look_42 (by decide) ?_
      refine lv_icmp_lt (tgt := 53) hx hb d_LT_look_43 (by decide) (fun z => absurd z (by decide)) (fun _ => ?_)
      refine lv_iload_n hx hb d_LT_look_46 rfl (lv_at hl 3 rfl) ?_
      refine lv_iconst (v := nI 4) hx hb d_LT_look_47 (by decide) ?_
      refine lv_icmp_gt (tgt := 53) hx hb d_LT_look_48 (by decide) (fun z => absurd z (by decide)) (fun _ => ?_)
      refine lv_iconst (v := (-1)) hx hb d_LT_look_51 (by decide) ?_
      exact lk_reti X h d_LT_look_52 (⟨by simp [cc_look, h38], rfl⟩)
  · refine lv_iload_n hx hb d_LT_look_0 rfl (lv_at hl 1 rfl) ?_
    refine lk_goi (lk_runS (As := [.int (nI t)]) X h (c_LT_isTask l D τ ad M t ht) ⟨gc_LT_isTask, gm_LT_47, gn_LT, gd_LT_isTask, by decide, by decide⟩ gt_LT_isTask rfl hl.1 (Nat.le_of_ble_eq_true rfl) d_LT_look_1 ⟨Nat.zero_le _, Nat.zero_le _⟩) h hA (fun r1 σ1 H locs hk9 h => ?_)
    rw [hk9.2] at h
    rw [hk9.1]
    refine lv_if_eq (tgt := 17) hx hb d_LT_look_4 (by decide) (fun z => absurd z (by decide)) (fun _ => ?_)
    refine lv_iload_n hx hb d_LT_look_7 rfl (lv_at hl 2 rfl) ?_
    refine lv_if_lt (tgt := 17) hx hb d_LT_look_8 (by decide) (fun z => absurd z (by decide)) (fun _ => ?_)
    refine lv_iload_n hx hb d_LT_look_11 rfl (lv_at hl 2 rfl) ?_
    refine lv_bipush (v := nI 8) hx hb d_LT_look_12 (by decide) ?_
    refine lv_icmp_le (tgt := 27) hx hb d_LT_look_14 (by decide) (fun _ => ?_) (fun z => absurd z (by decide))
    refine lv_aload_n hx hb d_LT_look_27 rfl (lv_at hl 0 rfl) ?_
    refine ct_get X h (q0 := 0) (by omega) rfl rfl gl_LT 2 (by decide) rfl gf_LT_28 rfl d_LT_look_28 ?_
    refine lv_iload_n hx hb d_LT_look_31 rfl (lv_at hl 1 rfl) ?_
    refine lt_taq X h (j := t) (by omega) d_LT_look_32 ?_
    refine lv_astore_n hx hb d_LT_look_33 rfl hl (by decide) rfl (fun ls hl => ?_)
    have hl : lv_has ls 4 [(3, .ref (ad (80 + t))), (0, .ref (ad 0)), (1, .int (nI t)), (2, .int (nI 5))] := hl
    refine lv_aload_n hx hb d_LT_look_34 rfl (lv_at hl 0 rfl) ?_
    refine ct_get X h (q0 := 80 + t) (by omega) (lk_ce_t (by omega)) rfl gl_TA 2 (by decide) rfl gf_LT_60 rfl d_LT_look_35 ?_
    refine lv_if_eq (tgt := 53) hx hb d_LT_look_38 (by decide) (fun h38 => ?_) (fun h38 => ?_)
    · refine lv_iload_n hx hb d_LT_look_53 rfl (lv_at hl 3 rfl) ?_
      refine lv_tableIn (tgt := 133) hx hb d_LT_look_54 (by decide) (by decide) rfl (by decide) ?_
      refine lv_aload_n hx hb d_LT_look_133 rfl (lv_at hl 0 rfl) ?_
      refine ct_get X h (q0 := 80 + t) (by omega) (lk_ce_t (by omega)) rfl gl_TA 12 (by decide) rfl gf_LT_96 rfl d_LT_look_134 ?_
      exact lk_reti X h d_LT_look_137 (⟨by simp [cc_look, h38], rfl⟩)
    · refine lv_iload_n hx hb d_LT_look_41 rfl (lv_at hl 3 rfl) ?_
      refine lv_iconst (v := nI 1) hx hb d_LT_look_42 (by decide) ?_
      refine lv_icmp_lt (tgt := 53) hx hb d_LT_look_43 (by decide) (fun z => absurd z (by decide)) (fun _ => ?_)
      refine lv_iload_n hx hb d_LT_look_46 rfl (lv_at hl 3 rfl) ?_
      refine lv_iconst (v := nI 4) hx hb d_LT_look_47 (by decide) ?_
      refine lv_icmp_gt (tgt := 53) hx hb d_LT_look_48 (by decide) (fun _ => ?_) (fun z => absurd z (by decide))
      refine lv_iload_n hx hb d_LT_look_53 rfl (lv_at hl 3 rfl) ?_
      refine lv_tableIn (tgt := 133) hx hb d_LT_look_54 (by decide) (by decide) rfl (by decide) ?_
      refine lv_aload_n hx hb d_LT_look_133 rfl (lv_at hl 0 rfl) ?_
      refine ct_get X h (q0 := 80 + t) (by omega) (lk_ce_t (by omega)) rfl gl_TA 12 (by decide) rfl gf_LT_96 rfl d_LT_look_134 ?_
      exact lk_reti X h d_LT_look_137 (⟨by simp [cc_look, h38], rfl⟩)
  · refine lv_iload_n hx hb d_LT_look_0 rfl (lv_at hl 1 rfl) ?_
    refine lk_goi (lk_runS (As := [.int (nI t)]) X h (c_LT_isTask l D τ ad M t ht) ⟨gc_LT_isTask, gm_LT_47, gn_LT, gd_LT_isTask, by decide, by decide⟩ gt_LT_isTask rfl hl.1 (Nat.le_of_ble_eq_true rfl) d_LT_look_1 ⟨Nat.zero_le _, Nat.zero_le _⟩) h hA (fun r1 σ1 H locs hk9 h => ?_)
    rw [hk9.2] at h
    rw [hk9.1]
    refine lv_if_eq (tgt := 17) hx hb d_LT_look_4 (by decide) (fun z => absurd z (by decide)) (fun _ => ?_)
    refine lv_iload_n hx hb d_LT_look_7 rfl (lv_at hl 2 rfl) ?_
    refine lv_if_lt (tgt := 17) hx hb d_LT_look_8 (by decide) (fun z => absurd z (by decide)) (fun _ => ?_)
    refine lv_iload_n hx hb d_LT_look_11 rfl (lv_at hl 2 rfl) ?_
    refine lv_bipush (v := nI 8) hx hb d_LT_look_12 (by decide) ?_
    refine lv_icmp_le (tgt := 27) hx hb d_LT_look_14 (by decide) (fun _ => ?_) (fun z => absurd z (by decide))
    refine lv_aload_n hx hb d_LT_look_27 rfl (lv_at hl 0 rfl) ?_
    refine ct_get X h (q0 := 0) (by omega) rfl rfl gl_LT 2 (by decide) rfl gf_LT_28 rfl d_LT_look_28 ?_
    refine lv_iload_n hx hb d_LT_look_31 rfl (lv_at hl 1 rfl) ?_
    refine lt_taq X h (j := t) (by omega) d_LT_look_32 ?_
    refine lv_astore_n hx hb d_LT_look_33 rfl hl (by decide) rfl (fun ls hl => ?_)
    have hl : lv_has ls 4 [(3, .ref (ad (80 + t))), (0, .ref (ad 0)), (1, .int (nI t)), (2, .int (nI 6))] := hl
    refine lv_aload_n hx hb d_LT_look_34 rfl (lv_at hl 0 rfl) ?_
    refine ct_get X h (q0 := 80 + t) (by omega) (lk_ce_t (by omega)) rfl gl_TA 2 (by decide) rfl gf_LT_60 rfl d_LT_look_35 ?_
    refine lv_if_eq (tgt := 53) hx hb d_LT_look_38 (by decide) (fun h38 => ?_) (fun h38 => ?_)
    · refine lv_iload_n hx hb d_LT_look_53 rfl (lv_at hl 3 rfl) ?_
      refine lv_tableIn (tgt := 138) hx hb d_LT_look_54 (by decide) (by decide) rfl (by decide) ?_
      refine lv_aload_n hx hb d_LT_look_138 rfl (lv_at hl 0 rfl) ?_
      refine ct_get X h (q0 := 80 + t) (by omega) (lk_ce_t (by omega)) rfl gl_TA 13 (by decide) rfl gf_LT_99 rfl d_LT_look_139 ?_
      exact lk_reti X h d_LT_look_142 (⟨by simp [cc_look, h38], rfl⟩)
    · refine lv_iload_n hx hb d_LT_look_41 rfl (lv_at hl 3 rfl) ?_
      refine lv_iconst (v := nI 1) hx hb d_LT_look_42 (by decide) ?_
      refine lv_icmp_lt (tgt := 53) hx hb d_LT_look_43 (by decide) (fun z => absurd z (by decide)) (fun _ => ?_)
      refine lv_iload_n hx hb d_LT_look_46 rfl (lv_at hl 3 rfl) ?_
      refine lv_iconst (v := nI 4) hx hb d_LT_look_47 (by decide) ?_
      refine lv_icmp_gt (tgt := 53) hx hb d_LT_look_48 (by decide) (fun _ => ?_) (fun z => absurd z (by decide))
      refine lv_iload_n hx hb d_LT_look_53 rfl (lv_at hl 3 rfl) ?_
      refine lv_tableIn (tgt := 138) hx hb d_LT_look_54 (by decide) (by decide) rfl (by decide) ?_
      refine lv_aload_n hx hb d_LT_look_138 rfl (lv_at hl 0 rfl) ?_
      refine ct_get X h (q0 := 80 + t) (by omega) (lk_ce_t (by omega)) rfl gl_TA 13 (by decide) rfl gf_LT_99 rfl d_LT_look_139 ?_
      exact lk_reti X h d_LT_look_142 (⟨by simp [cc_look, h38], rfl⟩)
  · refine lv_iload_n hx hb d_LT_look_0 rfl (lv_at hl 1 rfl) ?_
    refine lk_goi (lk_runS (As := [.int (nI t)]) X h (c_LT_isTask l D τ ad M t ht) ⟨gc_LT_isTask, gm_LT_47, gn_LT, gd_LT_isTask, by decide, by decide⟩ gt_LT_isTask rfl hl.1 (Nat.le_of_ble_eq_true rfl) d_LT_look_1 ⟨Nat.zero_le _, Nat.zero_le _⟩) h hA (fun r1 σ1 H locs hk9 h => ?_)
    rw [hk9.2] at h
    rw [hk9.1]
    refine lv_if_eq (tgt := 17) hx hb d_LT_look_4 (by decide) (fun z => absurd z (by decide)) (fun _ => ?_)
    refine lv_iload_n hx hb d_LT_look_7 rfl (lv_at hl 2 rfl) ?_
    refine lv_if_lt (tgt := 17) hx hb d_LT_look_8 (by decide) (fun z => absurd z (by decide)) (fun _ => ?_)
    refine lv_iload_n hx hb d_LT_look_11 rfl (lv_at hl 2 rfl) ?_
    refine lv_bipush (v := nI 8) hx hb d_LT_look_12 (by decide) ?_
    refine lv_icmp_le (tgt := 27) hx hb d_LT_look_14 (by decide) (fun _ => ?_) (fun z => absurd z (by decide))
    refine lv_aload_n hx hb d_LT_look_27 rfl (lv_at hl 0 rfl) ?_
    refine ct_get X h (q0 := 0) (by omega) rfl rfl gl_LT 2 (by decide) rfl gf_LT_28 rfl d_LT_look_28 ?_
    refine lv_iload_n hx hb d_LT_look_31 rfl (lv_at hl 1 rfl) ?_
    refine lt_taq X h (j := t) (by omega) d_LT_look_32 ?_
    refine lv_astore_n hx hb d_LT_look_33 rfl hl (by decide) rfl (fun ls hl => ?_)
    have hl : lv_has ls 4 [(3, .ref (ad (80 + t))), (0, .ref (ad 0)), (1, .int (nI t)), (2, .int (nI 7))] := hl
    refine lv_aload_n hx hb d_LT_look_34 rfl (lv_at hl 0 rfl) ?_
    refine ct_get X h (q0 := 80 + t) (by omega) (lk_ce_t (by omega)) rfl gl_TA 2 (by decide) rfl gf_LT_60 rfl d_LT_look_35 ?_
    refine lv_if_eq (tgt := 53) hx hb d_LT_look_38 (by decide) (fun h38 => ?_) (fun h38 => ?_)
    · refine lv_iload_n hx hb d_LT_look_53 rfl (lv_at hl 3 rfl) ?_
      refine lv_tableIn (tgt := 143) hx hb d_LT_look_54 (by decide) (by decide) rfl (by decide) ?_
      refine lv_aload_n hx hb d_LT_look_143 rfl (lv_at hl 0 rfl) ?_
      refine ct_get X h (q0 := 80 + t) (by omega) (lk_ce_t (by omega)) rfl gl_TA 14 (by decide) rfl gf_LT_121 rfl d_LT_look_144 ?_
      exact lk_reti X h d_LT_look_147 (⟨by simp [cc_look, h38], rfl⟩)
    · refine lv_iload_n hx hb d_LT_look_41 rfl (lv_at hl 3 rfl) ?_
      refine lv_iconst (v := nI 1) hx hb d_LT_look_42 (by decide) ?_
      refine lv_icmp_lt (tgt := 53) hx hb d_LT_look_43 (by decide) (fun z => absurd z (by decide)) (fun _ => ?_)
      refine lv_iload_n hx hb d_LT_look_46 rfl (lv_at hl 3 rfl) ?_
      refine lv_iconst (v := nI 4) hx hb d_LT_look_47 (by decide) ?_
      refine lv_icmp_gt (tgt := 53) hx hb d_LT_look_48 (by decide) (fun _ => ?_) (fun z => absurd z (by decide))
      refine lv_iload_n hx hb d_LT_look_53 rfl (lv_at hl 3 rfl) ?_
      refine lv_tableIn (tgt := 143) hx hb d_LT_look_54 (by decide) (by decide) rfl (by decide) ?_
      refine lv_aload_n hx hb d_LT_look_143 rfl (lv_at hl 0 rfl) ?_
      refine ct_get X h (q0 := 80 + t) (by omega) (lk_ce_t (by omega)) rfl gl_TA 14 (by decide) rfl gf_LT_121 rfl d_LT_look_144 ?_
      exact lk_reti X h d_LT_look_147 (⟨by simp [cc_look, h38], rfl⟩)
  · refine lv_iload_n hx hb d_LT_look_0 rfl (lv_at hl 1 rfl) ?_
    refine lk_goi (lk_runS (As := [.int (nI t)]) X h (c_LT_isTask l D τ ad M t ht) ⟨gc_LT_isTask, gm_LT_47, gn_LT, gd_LT_isTask, by decide, by decide⟩ gt_LT_isTask rfl hl.1 (Nat.le_of_ble_eq_true rfl) d_LT_look_1 ⟨Nat.zero_le _, Nat.zero_le _⟩) h hA (fun r1 σ1 H locs hk9 h => ?_)
    rw [hk9.2] at h
    rw [hk9.1]
    refine lv_if_eq (tgt := 17) hx hb d_LT_look_4 (by decide) (fun z => absurd z (by decide)) (fun _ => ?_)
    refine lv_iload_n hx hb d_LT_look_7 rfl (lv_at hl 2 rfl) ?_
    refine lv_if_lt (tgt := 17) hx hb d_LT_look_8 (by decide) (fun z => absurd z (by decide)) (fun _ => ?_)
    refine lv_iload_n hx hb d_LT_look_11 rfl (lv_at hl 2 rfl) ?_
    refine lv_bipush (v := nI 8) hx hb d_LT_look_12 (by decide) ?_
    refine lv_icmp_le (tgt := 27) hx hb d_LT_look_14 (by decide) (fun _ => ?_) (fun z => absurd z (by decide))
    refine lv_aload_n hx hb d_LT_look_27 rfl (lv_at hl 0 rfl) ?_
    refine ct_get X h (q0 := 0) (by omega) rfl rfl gl_LT 2 (by decide) rfl gf_LT_28 rfl d_LT_look_28 ?_
    refine lv_iload_n hx hb d_LT_look_31 rfl (lv_at hl 1 rfl) ?_
    refine lt_taq X h (j := t) (by omega) d_LT_look_32 ?_
    refine lv_astore_n hx hb d_LT_look_33 rfl hl (by decide) rfl (fun ls hl => ?_)
    have hl : lv_has ls 4 [(3, .ref (ad (80 + t))), (0, .ref (ad 0)), (1, .int (nI t)), (2, .int (nI 8))] := hl
    refine lv_aload_n hx hb d_LT_look_34 rfl (lv_at hl 0 rfl) ?_
    refine ct_get X h (q0 := 80 + t) (by omega) (lk_ce_t (by omega)) rfl gl_TA 2 (by decide) rfl gf_LT_60 rfl d_LT_look_35 ?_
    refine lv_if_eq (tgt := 53) hx hb d_LT_look_38 (by decide) (fun h38 => ?_) (fun h38 => ?_)
    · refine lv_iload_n hx hb d_LT_look_53 rfl (lv_at hl 3 rfl) ?_
      refine lv_tableOut (tgt := 148) hx hb d_LT_look_54 (by decide) (by decide) ?_
      refine lv_aload_n hx hb d_LT_look_148 rfl (lv_at hl 0 rfl) ?_
      refine ct_get X h (q0 := 80 + t) (by omega) (lk_ce_t (by omega)) rfl gl_TA 15 (by decide) rfl gf_LT_124 rfl d_LT_look_149 ?_
      exact lk_reti X h d_LT_look_152 (⟨by simp [cc_look, h38], rfl⟩)
    · refine lv_iload_n hx hb d_LT_look_41 rfl (lv_at hl 3 rfl) ?_
      refine lv_iconst (v := nI 1) hx hb d_LT_look_42 (by decide) ?_
      refine lv_icmp_lt (tgt := 53) hx hb d_LT_look_43 (by decide) (fun z => absurd z (by decide)) (fun _ => ?_)
      refine lv_iload_n hx hb d_LT_look_46 rfl (lv_at hl 3 rfl) ?_
      refine lv_iconst (v := nI 4) hx hb d_LT_look_47 (by decide) ?_
      refine lv_icmp_gt (tgt := 53) hx hb d_LT_look_48 (by decide) (fun _ => ?_) (fun z => absurd z (by decide))
      refine lv_iload_n hx hb d_LT_look_53 rfl (lv_at hl 3 rfl) ?_
      refine lv_tableOut (tgt := 148) hx hb d_LT_look_54 (by decide) (by decide) ?_
      refine lv_aload_n hx hb d_LT_look_148 rfl (lv_at hl 0 rfl) ?_
      refine ct_get X h (q0 := 80 + t) (by omega) (lk_ce_t (by omega)) rfl gl_TA 15 (by decide) rfl gf_LT_124 rfl d_LT_look_149 ?_
      exact lk_reti X h d_LT_look_152 (⟨by simp [cc_look, h38], rfl⟩)
set_option maxRecDepth 20000 in
theorem c_LT_page (l : Launch) (D : va_G) (τ : Nat → ClassId) (ad : Nat → Nat) (M : lk_M) (p w : Nat) (hp : p < 24) (hw : w ≤ 6) : lk_Ci l D τ 88 ad (lk_ce τ ad) y_LT_page b_LT_page 4 (.int) 1 20 [.ref (ad 0), .int (nI p), .int (nI w)] M (fun r M1 => r = lk_page M p w ∧ M1 = M) := by
  refine lk_openi (by decide +kernel) (Nat.le_of_ble_eq_true rfl) ?_
  intro pg en s m args below meth cd ls A X h hA hl
  obtain ⟨hx, hb, -⟩ := id X
  have hl : lv_has ls 4 [(0, .ref (ad 0)), (1, .int (nI p)), (2, .int (nI w))] := hl
  obtain rfl | rfl | rfl | rfl | rfl | rfl | rfl : w = 0 ∨ w = 1 ∨ w = 2 ∨ w = 3 ∨ w = 4 ∨ w = 5 ∨ w = 6 := by omega
  · refine lv_iload_n hx hb d_LT_page_0 rfl (lv_at hl 1 rfl) ?_
    refine lk_goi (lk_runS (As := [.int (nI p)]) X h (c_LT_isPage l D τ ad M p hp) ⟨gc_LT_isPage, gm_LT_127, gn_LT, gd_LT_isPage, by decide, by decide⟩ gt_LT_isPage rfl hl.1 (Nat.le_of_ble_eq_true rfl) d_LT_page_1 ⟨Nat.zero_le _, Nat.zero_le _⟩) h hA (fun r1 σ1 H locs hk9 h => ?_)
    rw [hk9.2] at h
    rw [hk9.1]
    refine lv_if_eq (tgt := 17) hx hb d_LT_page_4 (by decide) (fun z => absurd z (by decide)) (fun _ => ?_)
    refine lv_iload_n hx hb d_LT_page_7 rfl (lv_at hl 2 rfl) ?_
    refine lv_if_lt (tgt := 17) hx hb d_LT_page_8 (by decide) (fun z => absurd z (by decide)) (fun _ => ?_)
    refine lv_iload_n hx hb d_LT_page_11 rfl (lv_at hl 2 rfl) ?_
    refine lv_bipush (v := nI 6) hx hb d_LT_page_12 (by decide) ?_
    refine lv_icmp_le (tgt := 27) hx hb d_LT_page_14 (by decide) (fun _ => ?_) (fun z => absurd z (by decide))
    refine lv_aload_n hx hb d_LT_page_27 rfl (lv_at hl 0 rfl) ?_
    refine ct_get X h (q0 := 0) (by omega) rfl rfl gl_LT 0 (by decide) rfl gf_LT_11 rfl d_LT_page_28 ?_
    refine lv_iload_n hx hb d_LT_page_31 rfl (lv_at hl 1 rfl) ?_
    refine lt_ndq X h (j := p) (by omega) d_LT_page_32 ?_
    refine lv_astore_n hx hb d_LT_page_33 rfl hl (by decide) rfl (fun ls hl => ?_)
    have hl : lv_has ls 4 [(3, .ref (ad (5 + p))), (0, .ref (ad 0)), (1, .int (nI p)), (2, .int (nI 0))] := hl
    refine lv_iload_n hx hb d_LT_page_34 rfl (lv_at hl 3 rfl) ?_
    refine lv_if_le (tgt := 49) hx hb d_LT_page_35 (by decide) (fun _ => ?_) (fun z => absurd z (by decide))
    refine lv_iload_n hx hb d_LT_page_49 rfl (lv_at hl 3 rfl) ?_
    refine lv_tableIn (tgt := 88) hx hb d_LT_page_50 (by decide) (by decide) rfl (by decide) ?_
    refine lv_aload_n hx hb d_LT_page_88 rfl (lv_at hl 0 rfl) ?_
    refine ct_get X h (q0 := 5 + p) (by omega) (lk_ce_n (by omega)) rfl gl_ND 4 (by decide) rfl gf_LT_22 rfl d_LT_page_89 ?_
    exact lk_reti X h d_LT_page_92 (⟨by simp [lk_page], rfl⟩)
  · refine lv_iload_n hx hb d_LT_page_0 rfl (lv_at hl 1 rfl) ?_
    refine lk_goi (lk_runS (As := [.int (nI p)]) X h (c_LT_isPage l D τ ad M p hp) ⟨gc_LT_isPage, gm_LT_127, gn_LT, gd_LT_isPage, by decide, by decide⟩ gt_LT_isPage rfl hl.1 (Nat.le_of_ble_eq_true rfl) d_LT_page_1 ⟨Nat.zero_le _, Nat.zero_le _⟩) h hA (fun r1 σ1 H locs hk9 h => ?_)
    rw [hk9.2] at h
    rw [hk9.1]
    refine lv_if_eq (tgt := 17) hx hb d_LT_page_4 (by decide) (fun z => absurd z (by decide)) (fun _ => ?_)
    refine lv_iload_n hx hb d_LT_page_7 rfl (lv_at hl 2 rfl) ?_
    refine lv_if_lt (tgt := 17) hx hb d_LT_page_8 (by decide) (fun z => absurd z (by decide)) (fun _ => ?_)
    refine lv_iload_n hx hb d_LT_page_11 rfl (lv_at hl 2 rfl) ?_
    refine lv_bipush (v := nI 6) hx hb d_LT_page_12 (by decide) ?_
    refine lv_icmp_le (tgt := 27) hx hb d_LT_page_14 (by decide) (fun _ => ?_) (fun z => absurd z (by decide))
    refine lv_aload_n hx hb d_LT_page_27 rfl (lv_at hl 0 rfl) ?_
    refine ct_get X h (q0 := 0) (by omega) rfl rfl gl_LT 0 (by decide) rfl gf_LT_11 rfl d_LT_page_28 ?_
    refine lv_iload_n hx hb d_LT_page_31 rfl (lv_at hl 1 rfl) ?_
    refine lt_ndq X h (j := p) (by omega) d_LT_page_32 ?_
    refine lv_astore_n hx hb d_LT_page_33 rfl hl (by decide) rfl (fun ls hl => ?_)
    have hl : lv_has ls 4 [(3, .ref (ad (5 + p))), (0, .ref (ad 0)), (1, .int (nI p)), (2, .int (nI 1))] := hl
    refine lv_iload_n hx hb d_LT_page_34 rfl (lv_at hl 3 rfl) ?_
    refine lv_if_le (tgt := 49) hx hb d_LT_page_35 (by decide) (fun z => absurd z (by decide)) (fun _ => ?_)
    refine lv_aload_n hx hb d_LT_page_38 rfl (lv_at hl 0 rfl) ?_
    refine ct_get X h (q0 := 5 + p) (by omega) (lk_ce_n (by omega)) rfl gl_ND 4 (by decide) rfl gf_LT_22 rfl d_LT_page_39 ?_
    refine lv_iconst (v := 1) hx hb d_LT_page_42 (by decide) ?_
    refine lv_icmp_eq (tgt := 49) hx hb d_LT_page_43 (by decide) (fun h43 => ?_) (fun h43 => ?_)
    · refine lv_iload_n hx hb d_LT_page_49 rfl (lv_at hl 3 rfl) ?_
      refine lv_tableIn (tgt := 93) hx hb d_LT_page_50 (by decide) (by decide) rfl (by decide) ?_
      refine lv_aload_n hx hb d_LT_page_93 rfl (lv_at hl 0 rfl) ?_
      refine ct_get X h (q0 := 5 + p) (by omega) (lk_ce_n (by omega)) rfl gl_ND 5 (by decide) rfl gf_LT_132 rfl d_LT_page_94 ?_
      exact lk_reti X h d_LT_page_97 (⟨by simp [lk_page, h43], rfl⟩)
    · refine lv_bipush (v := (-2)) hx hb d_LT_page_46 (by decide) ?_
      exact lk_reti X h d_LT_page_48 (⟨by simp [lk_page, h43], rfl⟩)
  · refine lv_iload_n hx hb d_LT_page_0 rfl (lv_at hl 1 rfl) ?_
    refine lk_goi (lk_runS (As := [.int (nI p)]) X h (c_LT_isPage l D τ ad M p hp) ⟨gc_LT_isPage, gm_LT_127, gn_LT, gd_LT_isPage, by decide, by decide⟩ gt_LT_isPage rfl hl.1 (Nat.le_of_ble_eq_true rfl) d_LT_page_1 ⟨Nat.zero_le _, Nat.zero_le _⟩) h hA (fun r1 σ1 H locs hk9 h => ?_)
    rw [hk9.2] at h
    rw [hk9.1]
    refine lv_if_eq (tgt := 17) hx hb d_LT_page_4 (by decide) (fun z => absurd z (by decide)) (fun _ => ?_)
    refine lv_iload_n hx hb d_LT_page_7 rfl (lv_at hl 2 rfl) ?_
    refine lv_if_lt (tgt := 17) hx hb d_LT_page_8 (by decide) (fun z => absurd z (by decide)) (fun _ => ?_)
    refine lv_iload_n hx hb d_LT_page_11 rfl (lv_at hl 2 rfl) ?_
    refine lv_bipush (v := nI 6) hx hb d_LT_page_12 (by decide) ?_
    refine lv_icmp_le (tgt := 27) hx hb d_LT_page_14 (by decide) (fun _ => ?_) (fun z => absurd z (by decide))
    refine lv_aload_n hx hb d_LT_page_27 rfl (lv_at hl 0 rfl) ?_
    refine ct_get X h (q0 := 0) (by omega) rfl rfl gl_LT 0 (by decide) rfl gf_LT_11 rfl d_LT_page_28 ?_
    refine lv_iload_n hx hb d_LT_page_31 rfl (lv_at hl 1 rfl) ?_
    refine lt_ndq X h (j := p) (by omega) d_LT_page_32 ?_
    refine lv_astore_n hx hb d_LT_page_33 rfl hl (by decide) rfl (fun ls hl => ?_)
    have hl : lv_has ls 4 [(3, .ref (ad (5 + p))), (0, .ref (ad 0)), (1, .int (nI p)), (2, .int (nI 2))] := hl
    refine lv_iload_n hx hb d_LT_page_34 rfl (lv_at hl 3 rfl) ?_
    refine lv_if_le (tgt := 49) hx hb d_LT_page_35 (by decide) (fun z => absurd z (by decide)) (fun _ => ?_)
    refine lv_aload_n hx hb d_LT_page_38 rfl (lv_at hl 0 rfl) ?_
    refine ct_get X h (q0 := 5 + p) (by omega) (lk_ce_n (by omega)) rfl gl_ND 4 (by decide) rfl gf_LT_22 rfl d_LT_page_39 ?_
    refine lv_iconst (v := 1) hx hb d_LT_page_42 (by decide) ?_
    refine lv_icmp_eq (tgt := 49) hx hb d_LT_page_43 (by decide) (fun h43 => ?_) (fun h43 => ?_)
    · refine lv_iload_n hx hb d_LT_page_49 rfl (lv_at hl 3 rfl) ?_
      refine lv_tableIn (tgt := 98) hx hb d_LT_page_50 (by decide) (by decide) rfl (by decide) ?_
      refine lv_aload_n hx hb d_LT_page_98 rfl (lv_at hl 0 rfl) ?_
      refine ct_get X h (q0 := 5 + p) (by omega) (lk_ce_n (by omega)) rfl gl_ND 6 (by decide) rfl gf_LT_133 rfl d_LT_page_99 ?_
      exact lk_reti X h d_LT_page_102 (⟨by simp [lk_page, h43], rfl⟩)
    · refine lv_bipush (v := (-2)) hx hb d_LT_page_46 (by decide) ?_
      exact lk_reti X h d_LT_page_48 (⟨by simp [lk_page, h43], rfl⟩)
  · refine lv_iload_n hx hb d_LT_page_0 rfl (lv_at hl 1 rfl) ?_
    refine lk_goi (lk_runS (As := [.int (nI p)]) X h (c_LT_isPage l D τ ad M p hp) ⟨gc_LT_isPage, gm_LT_127, gn_LT, gd_LT_isPage, by decide, by decide⟩ gt_LT_isPage rfl hl.1 (Nat.le_of_ble_eq_true rfl) d_LT_page_1 ⟨Nat.zero_le _, Nat.zero_le _⟩) h hA (fun r1 σ1 H locs hk9 h => ?_)
    rw [hk9.2] at h
    rw [hk9.1]
    refine lv_if_eq (tgt := 17) hx hb d_LT_page_4 (by decide) (fun z => absurd z (by decide)) (fun _ => ?_)
    refine lv_iload_n hx hb d_LT_page_7 rfl (lv_at hl 2 rfl) ?_
    refine lv_if_lt (tgt := 17) hx hb d_LT_page_8 (by decide) (fun z => absurd z (by decide)) (fun _ => ?_)
    refine lv_iload_n hx hb d_LT_page_11 rfl (lv_at hl 2 rfl) ?_
    refine lv_bipush (v := nI 6) hx hb d_LT_page_12 (by decide) ?_
    refine lv_icmp_le (tgt := 27) hx hb d_LT_page_14 (by decide) (fun _ => ?_) (fun z => absurd z (by decide))
    refine lv_aload_n hx hb d_LT_page_27 rfl (lv_at hl 0 rfl) ?_
    refine ct_get X h (q0 := 0) (by omega) rfl rfl gl_LT 0 (by decide) rfl gf_LT_11 rfl d_LT_page_28 ?_
    refine lv_iload_n hx hb d_LT_page_31 rfl (lv_at hl 1 rfl) ?_
    refine lt_ndq X h (j := p) (by omega) d_LT_page_32 ?_
    refine lv_astore_n hx hb d_LT_page_33 rfl hl (by decide) rfl (fun ls hl => ?_)
    have hl : lv_has ls 4 [(3, .ref (ad (5 + p))), (0, .ref (ad 0)), (1, .int (nI p)), (2, .int (nI 3))] := hl
    refine lv_iload_n hx hb d_LT_page_34 rfl (lv_at hl 3 rfl) ?_
    refine lv_if_le (tgt := 49) hx hb d_LT_page_35 (by decide) (fun z => absurd z (by decide)) (fun _ => ?_)
    refine lv_aload_n hx hb d_LT_page_38 rfl (lv_at hl 0 rfl) ?_
    refine ct_get X h (q0 := 5 + p) (by omega) (lk_ce_n (by omega)) rfl gl_ND 4 (by decide) rfl gf_LT_22 rfl d_LT_page_39 ?_
    refine lv_iconst (v := 1) hx hb d_LT_page_42 (by decide) ?_
    refine lv_icmp_eq (tgt := 49) hx hb d_LT_page_43 (by decide) (fun h43 => ?_) (fun h43 => ?_)
    · refine lv_iload_n hx hb d_LT_page_49 rfl (lv_at hl 3 rfl) ?_
      refine lv_tableIn (tgt := 103) hx hb d_LT_page_50 (by decide) (by decide) rfl (by decide) ?_
      refine lv_aload_n hx hb d_LT_page_103 rfl (lv_at hl 0 rfl) ?_
      refine ct_get X h (q0 := 5 + p) (by omega) (lk_ce_n (by omega)) rfl gl_ND 7 (by decide) rfl gf_LT_136 rfl d_LT_page_104 ?_
      exact lk_reti X h d_LT_page_107 (⟨by simp [lk_page, h43], rfl⟩)
    · refine lv_bipush (v := (-2)) hx hb d_LT_page_46 (by decide) ?_
      exact lk_reti X h d_LT_page_48 (⟨by simp [lk_page, h43], rfl⟩)
  · refine lv_iload_n hx hb d_LT_page_0 rfl (lv_at hl 1 rfl) ?_
    refine lk_goi (lk_runS (As := [.int (nI p)]) X h (c_LT_isPage l D τ ad M p hp) ⟨gc_LT_isPage, gm_LT_127, gn_LT, gd_LT_isPage, by decide, by decide⟩ gt_LT_isPage rfl hl.1 (Nat.le_of_ble_eq_true rfl) d_LT_page_1 ⟨Nat.zero_le _, Nat.zero_le _⟩) h hA (fun r1 σ1 H locs hk9 h => ?_)
    rw [hk9.2] at h
    rw [hk9.1]
    refine lv_if_eq (tgt := 17) hx hb d_LT_page_4 (by decide) (fun z => absurd z (by decide)) (fun _ => ?_)
    refine lv_iload_n hx hb d_LT_page_7 rfl (lv_at hl 2 rfl) ?_
    refine lv_if_lt (tgt := 17) hx hb d_LT_page_8 (by decide) (fun z => absurd z (by decide)) (fun _ => ?_)
    refine lv_iload_n hx hb d_LT_page_11 rfl (lv_at hl 2 rfl) ?_
    refine lv_bipush (v := nI 6) hx hb d_LT_page_12 (by decide) ?_
    refine lv_icmp_le (tgt := 27) hx hb d_LT_page_14 (by decide) (fun _ => ?_) (fun z => absurd z (by decide))
    refine lv_aload_n hx hb d_LT_page_27 rfl (lv_at hl 0 rfl) ?_
    refine ct_get X h (q0 := 0) (by omega) rfl rfl gl_LT 0 (by decide) rfl gf_LT_11 rfl d_LT_page_28 ?_
    refine lv_iload_n hx hb d_LT_page_31 rfl (lv_at hl 1 rfl) ?_
    refine lt_ndq X h (j := p) (by omega) d_LT_page_32 ?_
    refine lv_astore_n hx hb d_LT_page_33 rfl hl (by decide) rfl (fun ls hl => ?_)
    have hl : lv_has ls 4 [(3, .ref (ad (5 + p))), (0, .ref (ad 0)), (1, .int (nI p)), (2, .int (nI 4))] := hl
    refine lv_iload_n hx hb d_LT_page_34 rfl (lv_at hl 3 rfl) ?_
    refine lv_if_le (tgt := 49) hx hb d_LT_page_35 (by decide) (fun z => absurd z (by decide)) (fun _ => ?_)
    refine lv_aload_n hx hb d_LT_page_38 rfl (lv_at hl 0 rfl) ?_
    refine ct_get X h (q0 := 5 + p) (by omega) (lk_ce_n (by omega)) rfl gl_ND 4 (by decide) rfl gf_LT_22 rfl d_LT_page_39 ?_
    refine lv_iconst (v := 1) hx hb d_LT_page_42 (by decide) ?_
    refine lv_icmp_eq (tgt := 49) hx hb d_LT_page_43 (by decide) (fun h43 => ?_) (fun h43 => ?_)
    · refine lv_iload_n hx hb d_LT_page_49 rfl (lv_at hl 3 rfl) ?_
      refine lv_tableIn (tgt := 108) hx hb d_LT_page_50 (by decide) (by decide) rfl (by decide) ?_
      refine lv_aload_n hx hb d_LT_page_108 rfl (lv_at hl 0 rfl) ?_
      refine ct_get X h (q0 := 5 + p) (by omega) (lk_ce_n (by omega)) rfl gl_ND 8 (by decide) rfl gf_LT_139 rfl d_LT_page_109 ?_
      exact lk_reti X h d_LT_page_112 (⟨by simp [lk_page, h43], rfl⟩)
    · refine lv_bipush (v := (-2)) hx hb d_LT_page_46 (by decide) ?_
      exact lk_reti X h d_LT_page_48 (⟨by simp [lk_page, h43], rfl⟩)
  · refine lv_iload_n hx hb d_LT_page_0 rfl (lv_at hl 1 rfl) ?_
    refine lk_goi (lk_runS (As := [.int (nI p)]) X h (c_LT_isPage l D τ ad M p hp) ⟨gc_LT_isPage, gm_LT_127, gn_LT, gd_LT_isPage, by decide, by decide⟩ gt_LT_isPage rfl hl.1 (Nat.le_of_ble_eq_true rfl) d_LT_page_1 ⟨Nat.zero_le _, Nat.zero_le _⟩) h hA (fun r1 σ1 H locs hk9 h => ?_)
    rw [hk9.2] at h
    rw [hk9.1]
    refine lv_if_eq (tgt := 17) hx hb d_LT_page_4 (by decide) (fun z => absurd z (by decide)) (fun _ => ?_)
    refine lv_iload_n hx hb d_LT_page_7 rfl (lv_at hl 2 rfl) ?_
    refine lv_if_lt (tgt := 17) hx hb d_LT_page_8 (by decide) (fun z => absurd z (by decide)) (fun _ => ?_)
    refine lv_iload_n hx hb d_LT_page_11 rfl (lv_at hl 2 rfl) ?_
    refine lv_bipush (v := nI 6) hx hb d_LT_page_12 (by decide) ?_
    refine lv_icmp_le (tgt := 27) hx hb d_LT_page_14 (by decide) (fun _ => ?_) (fun z => absurd z (by decide))
    refine lv_aload_n hx hb d_LT_page_27 rfl (lv_at hl 0 rfl) ?_
    refine ct_get X h (q0 := 0) (by omega) rfl rfl gl_LT 0 (by decide) rfl gf_LT_11 rfl d_LT_page_28 ?_
    refine lv_iload_n hx hb d_LT_page_31 rfl (lv_at hl 1 rfl) ?_
    refine lt_ndq X h (j := p) (by omega) d_LT_page_32 ?_
    refine lv_astore_n hx hb d_LT_page_33 rfl hl (by decide) rfl (fun ls hl => ?_)
    have hl : lv_has ls 4 [(3, .ref (ad (5 + p))), (0, .ref (ad 0)), (1, .int (nI p)), (2, .int (nI 5))] := hl
    refine lv_iload_n hx hb d_LT_page_34 rfl (lv_at hl 3 rfl) ?_
    refine lv_if_le (tgt := 49) hx hb d_LT_page_35 (by decide) (fun z => absurd z (by decide)) (fun _ => ?_)
    refine lv_aload_n hx hb d_LT_page_38 rfl (lv_at hl 0 rfl) ?_
    refine ct_get X h (q0 := 5 + p) (by omega) (lk_ce_n (by omega)) rfl gl_ND 4 (by decide) rfl gf_LT_22 rfl d_LT_page_39 ?_
    refine lv_iconst (v := 1) hx hb d_LT_page_42 (by decide) ?_
    refine lv_icmp_eq (tgt := 49) hx hb d_LT_page_43 (by decide) (fun h43 => ?_) (fun h43 => ?_)
    · refine lv_iload_n hx hb d_LT_page_49 rfl (lv_at hl 3 rfl) ?_
      refine lv_tableIn (tgt := 113) hx hb d_LT_page_50 (by decide) (by decide) rfl (by decide) ?_
      refine lv_aload_n hx hb d_LT_page_113 rfl (lv_at hl 0 rfl) ?_
      refine ct_get X h (q0 := 5 + p) (by omega) (lk_ce_n (by omega)) rfl gl_ND 3 (by decide) rfl gf_LT_142 rfl d_LT_page_114 ?_
      exact lk_reti X h d_LT_page_117 (⟨by simp [lk_page, h43], rfl⟩)
    · refine lv_bipush (v := (-2)) hx hb d_LT_page_46 (by decide) ?_
      exact lk_reti X h d_LT_page_48 (⟨by simp [lk_page, h43], rfl⟩)
  · refine lv_iload_n hx hb d_LT_page_0 rfl (lv_at hl 1 rfl) ?_
    refine lk_goi (lk_runS (As := [.int (nI p)]) X h (c_LT_isPage l D τ ad M p hp) ⟨gc_LT_isPage, gm_LT_127, gn_LT, gd_LT_isPage, by decide, by decide⟩ gt_LT_isPage rfl hl.1 (Nat.le_of_ble_eq_true rfl) d_LT_page_1 ⟨Nat.zero_le _, Nat.zero_le _⟩) h hA (fun r1 σ1 H locs hk9 h => ?_)
    rw [hk9.2] at h
    rw [hk9.1]
    refine lv_if_eq (tgt := 17) hx hb d_LT_page_4 (by decide) (fun z => absurd z (by decide)) (fun _ => ?_)
    refine lv_iload_n hx hb d_LT_page_7 rfl (lv_at hl 2 rfl) ?_
    refine lv_if_lt (tgt := 17) hx hb d_LT_page_8 (by decide) (fun z => absurd z (by decide)) (fun _ => ?_)
    refine lv_iload_n hx hb d_LT_page_11 rfl (lv_at hl 2 rfl) ?_
    refine lv_bipush (v := nI 6) hx hb d_LT_page_12 (by decide) ?_
    refine lv_icmp_le (tgt := 27) hx hb d_LT_page_14 (by decide) (fun _ => ?_) (fun z => absurd z (by decide))
    refine lv_aload_n hx hb d_LT_page_27 rfl (lv_at hl 0 rfl) ?_
    refine ct_get X h (q0 := 0) (by omega) rfl rfl gl_LT 0 (by decide) rfl gf_LT_11 rfl d_LT_page_28 ?_
    refine lv_iload_n hx hb d_LT_page_31 rfl (lv_at hl 1 rfl) ?_
    refine lt_ndq X h (j := p) (by omega) d_LT_page_32 ?_
    refine lv_astore_n hx hb d_LT_page_33 rfl hl (by decide) rfl (fun ls hl => ?_)
    have hl : lv_has ls 4 [(3, .ref (ad (5 + p))), (0, .ref (ad 0)), (1, .int (nI p)), (2, .int (nI 6))] := hl
    refine lv_iload_n hx hb d_LT_page_34 rfl (lv_at hl 3 rfl) ?_
    refine lv_if_le (tgt := 49) hx hb d_LT_page_35 (by decide) (fun z => absurd z (by decide)) (fun _ => ?_)
    refine lv_aload_n hx hb d_LT_page_38 rfl (lv_at hl 0 rfl) ?_
    refine ct_get X h (q0 := 5 + p) (by omega) (lk_ce_n (by omega)) rfl gl_ND 4 (by decide) rfl gf_LT_22 rfl d_LT_page_39 ?_
    refine lv_iconst (v := 1) hx hb d_LT_page_42 (by decide) ?_
    refine lv_icmp_eq (tgt := 49) hx hb d_LT_page_43 (by decide) (fun h43 => ?_) (fun h43 => ?_)
    · refine lv_iload_n hx hb d_LT_page_49 rfl (lv_at hl 3 rfl) ?_
      refine lv_tableOut (tgt := 118) hx hb d_LT_page_50 (by decide) (by decide) ?_
      refine lv_aload_n hx hb d_LT_page_118 rfl (lv_at hl 0 rfl) ?_
      refine ct_get X h (q0 := 5 + p) (by omega) (lk_ce_n (by omega)) rfl gl_ND 9 (by decide) rfl gf_LT_145 rfl d_LT_page_119 ?_
      exact lk_reti X h d_LT_page_122 (⟨by simp [lk_page, h43], rfl⟩)
    · refine lv_bipush (v := (-2)) hx hb d_LT_page_46 (by decide) ?_
      exact lk_reti X h d_LT_page_48 (⟨by simp [lk_page, h43], rfl⟩)
set_option maxRecDepth 20000 in
theorem c_LT_entry (l : Launch) (D : va_G) (τ : Nat → ClassId) (ad : Nat → Nat) (M : lk_M) (p n j : Nat) (hp : p < 24) (hkd : M 0 p = 1) (hc : M 5 p = nI n) (hn : n ≤ 5) (hj : j < n) (z : Int32) : lk_Ci l D τ 88 ad (lk_ce τ ad) y_LT_entry b_LT_entry 5 (.int) 2 41 [.ref (ad 0), .int (nI p), .int (nI j), .int z] M (fun r M1 => (r = if z = 0 then M 7 (5 * p + j) else M 8 (5 * p + j)) ∧ M1 = M) := by
  refine lk_openi (by decide +kernel) (Nat.le_of_ble_eq_true rfl) ?_
  intro pg en s m args below meth cd ls A X h hA hl
  obtain ⟨hx, hb, -⟩ := id X
  have hl : lv_has ls 5 [(0, .ref (ad 0)), (1, .int (nI p)), (2, .int (nI j)), (3, .int z)] := hl
  refine lv_aload_n hx hb d_LT_entry_0 rfl (lv_at hl 0 rfl) ?_
  refine lv_iload_n hx hb d_LT_entry_1 rfl (lv_at hl 1 rfl) ?_
  refine lk_goq (lk_runV (As := [.int (nI p)]) (C := R_LT) X h (c_LT_nodeAt l D τ ad _ p hp) ⟨gc_LT_nodeAt, gm_LT_148, gn_LT, gd_LT_nodeAt, by decide, by decide⟩ gi_LT_nodeAt gs_LT_nodeAt ⟨0, 0, _, _, _, lk_w_get (by decide), rfl⟩ rfl hl.1 (Nat.le_of_ble_eq_true rfl) d_LT_entry_2 ⟨Nat.zero_le _, Nat.zero_le _⟩) h hA (fun r2 σ2 H locs hk9 h => ?_)
  rw [hk9.2] at h
  rw [hk9.1, show va_rf (some (ad (5 + p))) = .ref (ad (5 + p)) from rfl]
  refine lv_astore hx hb d_LT_entry_5 hl (by decide) rfl (fun ls hl => ?_)
  have hl : lv_has ls 5 [(4, .ref (ad (5 + p))), (0, .ref (ad 0)), (1, .int (nI p)), (2, .int (nI j)), (3, .int z)] := hl
  refine lv_aload hx hb d_LT_entry_7 (lv_at hl 0 rfl) ?_
  refine ct_get X h (q0 := 5 + p) (by omega) (lk_ce_n (by omega)) rfl gl_ND 4 (by decide) rfl gf_LT_22 rfl d_LT_entry_9 ?_
  refine lk_top 1 (hkd) ?_
  refine lv_iconst (v := 1) hx hb d_LT_entry_12 (by decide) ?_
  refine lv_icmp_ne (tgt := 29) hx hb d_LT_entry_13 (by decide) (fun z => absurd z (by decide)) (fun _ => ?_)
  refine lv_iload_n hx hb d_LT_entry_16 rfl (lv_at hl 3 rfl) ?_
  refine lv_if_lt (tgt := 29) hx hb d_LT_entry_17 (by decide) (fun h17 => ?_) (fun h17 => ?_)
  · exact absurd h17 (nI_pos (by omega))
  · refine lv_iload_n hx hb d_LT_entry_20 rfl (lv_at hl 3 rfl) ?_
    refine lv_aload hx hb d_LT_entry_21 (lv_at hl 0 rfl) ?_
    refine ct_get X h (q0 := 5 + p) (by omega) (lk_ce_n (by omega)) rfl gl_ND 3 (by decide) rfl gf_LT_142 rfl d_LT_entry_23 ?_
    refine lk_top (nI n) (hc) ?_
    refine lk_cN_lt (tgt := 39) hx hb (by omega) (by omega) d_LT_entry_26 (by decide) (fun h26 => ?_) (fun h26 => ?_)
    · refine lv_iload_n hx hb d_LT_entry_39 rfl (lv_at hl 4 rfl) ?_
      refine lv_if_eq (tgt := 53) hx hb d_LT_entry_40 (by decide) (fun h40 => ?_) (fun h40 => ?_)
      · refine lv_aload hx hb d_LT_entry_53 (lv_at hl 0 rfl) ?_
        refine ct_get X h (q0 := 5 + p) (by omega) (lk_ce_n (by omega)) rfl gl_ND 1 (by decide) rfl gf_LT_158 rfl d_LT_entry_55 ?_
        refine lv_iload_n hx hb d_LT_entry_58 rfl (lv_at hl 3 rfl) ?_
        refine nd_ald7 X h (q := p) (j := j) (by omega) (by omega) d_LT_entry_59 ?_
        exact lk_reti X h d_LT_entry_60 (⟨(if_pos h40).symm, rfl⟩)
      · refine lv_aload hx hb d_LT_entry_43 (lv_at hl 0 rfl) ?_
        refine ct_get X h (q0 := 5 + p) (by omega) (lk_ce_n (by omega)) rfl gl_ND 2 (by decide) rfl gf_LT_154 rfl d_LT_entry_45 ?_
        refine lv_iload_n hx hb d_LT_entry_48 rfl (lv_at hl 3 rfl) ?_
        refine nd_ald8 X h (q := p) (j := j) (by omega) (by omega) d_LT_entry_49 ?_
        refine lv_goto (tgt := 60) hx hb d_LT_entry_50 (by decide) ?_
        exact lk_reti X h d_LT_entry_60 (⟨(if_neg h40).symm, rfl⟩)
    · omega
