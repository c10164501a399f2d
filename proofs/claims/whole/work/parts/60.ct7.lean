def lk_PreX (D : va_G) (τ : Nat → ClassId) (n : Nat) (ad : Nat → Nat) (ws : va_W) (sz : Nat) (U : State) : Prop := lk_Pre D τ ws sz U ∧ lk_En (lk_A n ad sz) U U.heap
def lk_XC (D : va_G) (τ : Nat → ClassId) (n : Nat) (ad : Nat → Nat) (el : lk_M → Nat → va_E) (σ : lk_M) (cls : String) (A : Nat → Prop) : String → State → State → Prop := vx_X (fun u => u = σ) (fun E u t => E = cls ∧ lk_Bh D τ n ad el u t) A
def lk_Xi (l : Launch) (D : va_G) (τ : Nat → ClassId) (n : Nat) (ad : Nat → Nat) (el : lk_M → Nat → va_E) (y : MethodName) (b : ByteArray) (nL : Nat) (ty : FieldType) (fr lo : Nat) (av : List Value) (σ : lk_M) (cls : String) : Prop :=
  ∀ sz : Nat, vx_Met l y (.code y b nL (some ty) :: (lk_G ++ lk_GT)) (lk_rx fr lo) (va_Pc av (lk_PreX D τ n ad (lk_w n ad (el σ)) sz)) (va_Qi (fun _ (_ : lk_M) => False) (lk_Bh D τ n ad el) (lk_A n ad sz)) (lk_XC D τ n ad el σ cls (lk_A n ad sz)) 1 6 (lk_A n ad sz)
def lk_Xv (l : Launch) (D : va_G) (τ : Nat → ClassId) (n : Nat) (ad : Nat → Nat) (el : lk_M → Nat → va_E) (y : MethodName) (b : ByteArray) (nL : Nat) (fr lo : Nat) (av : List Value) (σ : lk_M) (cls : String) : Prop :=
  ∀ sz : Nat, vx_Met l y (.code y b nL none :: (lk_G ++ lk_GT)) (lk_rx fr lo) (va_Pc av (lk_PreX D τ n ad (lk_w n ad (el σ)) sz)) (va_Qv (fun (_ : lk_M) => False) (lk_Bh D τ n ad el) (lk_A n ad sz)) (lk_XC D τ n ad el σ cls (lk_A n ad sz)) 1 6 (lk_A n ad sz)
section Open
variable {l : Launch} {D : va_G} {τ : Nat → ClassId} {n : Nat} {ad : Nat → Nat} {el : lk_M → Nat → va_E} {y : MethodName} {b : ByteArray} {nL : Nat} {ty : FieldType} {fr lo : Nat} {av : List Value} {σ : lk_M} {cls : String}
theorem lk_openX {ret : Option FieldType} {mk : (Nat → Prop) → Array Value → State → Outcome → State → Prop} (hy : plainName y.cls = true) (hlen : (lg_sl av).length ≤ nL)
    (body : ∀ (p : Program) (e : Env) (s : State) (m : MethodId) (args : Array Value) (below : List Frame) (meth : Method) (c : Code) (ls : Array Slot) (A : Nat → Prop), lk_X p s m args meth c y b nL ret D τ → lk_H D lk_cl A s.heap (lk_w n ad (el σ)) s.heap [] → (∀ q, s.heap.size ≤ q → A q) → lv_has ls nL (lv_args 0 av) → (∀ w ∈ lk_GT, w.before args s = true) → lk_En A s s.heap → (∀ x ∈ c.exceptionTable.toList, False) →
      W p l e (lk_rx fr lo) s m args below meth c s.heap [] 0 0 (vx_MQ below (mk A) (lk_XC D τ n ad el σ cls A) args s 1 6 A) (F0 m 0 ls [])) :
    ∀ sz : Nat, vx_Met l y (.code y b nL ret :: (lk_G ++ lk_GT)) (lk_rx fr lo) (va_Pc av (lk_PreX D τ n ad (lk_w n ad (el σ)) sz)) (mk (lk_A n ad sz)) (lk_XC D τ n ad el σ cls (lk_A n ad sz)) 1 6 (lk_A n ad sz) := by
  intro sz
  refine vx_ofW (cc := b) (maxL := nL) (ret := ret) hy rfl ?_
  intro p e s m args below meth c s₁ B hml ht hv
  obtain ⟨rfl, ⟨hsz, hP, hK, hD0⟩, hE⟩ := hv
  have hts := atoms_spec (ws := .code y b nL ret :: (lk_G ++ lk_GT)) B.pre
  subst hsz
  have hD : va_D (lk_A n ad s.heap.size) (lk_w n ad (el σ)) := lk_w_Dw hD0 (fun k hk => Or.inl ⟨k, hk, rfl⟩)
  have hl := lv_entry av (n := nL) hlen
  rw [lg_entry_eq]
  exact body p e s m _ below meth c _ _ ⟨B.exec, B.bytes, hml, B.returns, fun w hw => hts w (List.mem_cons_of_mem _ (List.mem_append_left _ hw)), findClass_of_methodNamed B.named, B.notSynchronized, hK⟩ ⟨hP, hD, va_S.rf⟩ (fun q h => Or.inr h) hl (fun w hw => hts w (List.mem_cons_of_mem _ (List.mem_append_right _ hw))) hE ht
end Open
set_option maxRecDepth 20000 in
theorem c_LT_begin_bad (l : Launch) (hl0 : l.stackTraces = false) (D : va_G) (τ : Nat → ClassId) (ad : Nat → Nat) (M : lk_M) (x o k v : Int32) (hbad : ¬ lk_bok x o k) : lk_Xv l D τ 88 ad (lk_ce τ ad) y_LT_begin b_LT_begin 6 6 82 [.ref (ad 0), .int x, .int o, .int k, .int v] M lk_eI := by
  refine lk_openX (mk := fun A => va_Qv (fun (_ : lk_M) => False) (lk_Bh D τ 88 ad (lk_ce τ ad)) A) (by decide +kernel) (Nat.le_of_ble_eq_true rfl) ?_
  intro pg en s m args below meth cd ls A X h hA hl hT hE ht
  obtain ⟨hx, hb, -⟩ := id X
  have hl : lv_has ls 6 [(0, .ref (ad 0)), (1, .int x), (2, .int o), (3, .int k), (4, .int v)] := hl
  by_cases h1 : 0 ≤ x ∧ x ≤ 3
  · obtain ⟨j, hj, rfl⟩ := lk_in4 h1
    refine lv_iload_n hx hb d_LT_begin_0 rfl (lv_at hl 1 rfl) ?_
    refine lk_goi (lk_runS (As := [.int (nI j)]) X h (c_LT_isTask l D τ ad M j hj) ⟨gc_LT_isTask, gm_LT_47, gn_LT, gd_LT_isTask, by decide, by decide⟩ gt_LT_isTask rfl hl.1 (Nat.le_of_ble_eq_true rfl) d_LT_begin_1 ⟨Nat.zero_le _, Nat.zero_le _⟩) h hA (fun r1 σ1 H locs hk9 h => ?_)
    rw [hk9.2] at h
    rw [hk9.1]
    refine lv_if_eq (tgt := 16) hx hb d_LT_begin_4 (by decide) (fun z => absurd z (by decide)) (fun _ => ?_)
    refine lv_iload_n hx hb d_LT_begin_7 rfl (lv_at hl 2 rfl) ?_
    refine lv_if_lt (tgt := 16) hx hb d_LT_begin_8 (by decide) (fun h8 => ?_) (fun h8 => ?_)
    · exact lk_thr hl0 X rfl hT hE h ht (lk_siteI 53 _ (List.mem_of_getElem? (i := 0) rfl)) hl.1 d_LT_begin_16 d_LT_begin_19 d_LT_begin_20 d_LT_begin_22 d_LT_begin_25 (by decide)
    · refine lv_iload_n hx hb d_LT_begin_11 rfl (lv_at hl 2 rfl) ?_
      refine lv_iconst (v := 3) hx hb d_LT_begin_12 (by decide) ?_
      refine lv_icmp_le (tgt := 26) hx hb d_LT_begin_13 (by decide) (fun h13 => ?_) (fun h13 => ?_)
      · refine lv_iload_n hx hb d_LT_begin_26 rfl (lv_at hl 2 rfl) ?_
        refine lv_iconst (v := 3) hx hb d_LT_begin_27 (by decide) ?_
        refine lv_icmp_eq (tgt := 52) hx hb d_LT_begin_28 (by decide) (fun h28 => ?_) (fun h28 => ?_)
        · exact absurd ⟨h1, ⟨Int32.not_lt.mp h8, h13⟩, Or.inl h28⟩ hbad
        · refine lv_iload_n hx hb d_LT_begin_31 rfl (lv_at hl 3 rfl) ?_
          refine lv_if_lt (tgt := 42) hx hb d_LT_begin_32 (by decide) (fun h32 => ?_) (fun h32 => ?_)
          · exact lk_thr hl0 X rfl hT hE h ht (lk_siteI 58 _ (List.mem_of_getElem? (i := 1) rfl)) hl.1 d_LT_begin_42 d_LT_begin_45 d_LT_begin_46 d_LT_begin_48 d_LT_begin_51 (by decide)
          · refine lv_iload_n hx hb d_LT_begin_35 rfl (lv_at hl 3 rfl) ?_
            refine lv_sipush (v := 999) hx hb d_LT_begin_36 (by decide) ?_
            refine lv_icmp_le (tgt := 52) hx hb d_LT_begin_39 (by decide) (fun h39 => ?_) (fun h39 => ?_)
            · exact absurd ⟨h1, ⟨Int32.not_lt.mp h8, h13⟩, Or.inr ⟨Int32.not_lt.mp h32, h39⟩⟩ hbad
            · exact lk_thr hl0 X rfl hT hE h ht (lk_siteI 58 _ (List.mem_of_getElem? (i := 1) rfl)) hl.1 d_LT_begin_42 d_LT_begin_45 d_LT_begin_46 d_LT_begin_48 d_LT_begin_51 (by decide)
      · exact lk_thr hl0 X rfl hT hE h ht (lk_siteI 53 _ (List.mem_of_getElem? (i := 0) rfl)) hl.1 d_LT_begin_16 d_LT_begin_19 d_LT_begin_20 d_LT_begin_22 d_LT_begin_25 (by decide)
  · refine lv_iload_n hx hb d_LT_begin_0 rfl (lv_at hl 1 rfl) ?_
    refine lk_goi (lk_runS (As := [.int x]) X h (c_LT_isTask_no l D τ ad M x h1) ⟨gc_LT_isTask, gm_LT_47, gn_LT, gd_LT_isTask, by decide, by decide⟩ gt_LT_isTask rfl hl.1 (Nat.le_of_ble_eq_true rfl) d_LT_begin_1 ⟨Nat.zero_le _, Nat.zero_le _⟩) h hA (fun r1 σ1 H locs hk9 h => ?_)
    rw [hk9.2] at h
    rw [hk9.1]
    refine lv_if_eq (tgt := 16) hx hb d_LT_begin_4 (by decide) (fun _ => ?_) (fun z => absurd z (by decide))
    exact lk_thr hl0 X rfl hT hE h ht (lk_siteI 53 _ (List.mem_of_getElem? (i := 0) rfl)) hl.1 d_LT_begin_16 d_LT_begin_19 d_LT_begin_20 d_LT_begin_22 d_LT_begin_25 (by decide)
set_option maxRecDepth 20000 in
theorem c_LT_begin_no (l : Launch) (hl0 : l.stackTraces = false) (D : va_G) (τ : Nat → ClassId) (ad : Nat → Nat) (M : lk_M) (t : Nat) (ht0 : t < 4) (o k v : Int32) (hok : lk_bok (nI t) o k) (hbu : M 11 t = 0) : lk_Xv l D τ 88 ad (lk_ce τ ad) y_LT_begin b_LT_begin 6 6 82 [.ref (ad 0), .int (nI t), .int o, .int k, .int v] M lk_eS := by
  refine lk_openX (mk := fun A => va_Qv (fun (_ : lk_M) => False) (lk_Bh D τ 88 ad (lk_ce τ ad)) A) (by decide +kernel) (Nat.le_of_ble_eq_true rfl) ?_
  intro pg en s m args below meth cd ls A X h hA hl hT hE ht
  obtain ⟨hx, hb, -⟩ := id X
  have hl : lv_has ls 6 [(0, .ref (ad 0)), (1, .int (nI t)), (2, .int o), (3, .int k), (4, .int v)] := hl
  obtain ⟨g1, ⟨g2, g3⟩, g4⟩ := hok
  refine lv_iload_n hx hb d_LT_begin_0 rfl (lv_at hl 1 rfl) ?_
  refine lk_goi (lk_runS (As := [.int (nI t)]) X h (c_LT_isTask l D τ ad M t ht0) ⟨gc_LT_isTask, gm_LT_47, gn_LT, gd_LT_isTask, by decide, by decide⟩ gt_LT_isTask rfl hl.1 (Nat.le_of_ble_eq_true rfl) d_LT_begin_1 ⟨Nat.zero_le _, Nat.zero_le _⟩) h hA (fun r1 σ1 H locs hk9 h => ?_)
  rw [hk9.2] at h
  rw [hk9.1]
  refine lv_if_eq (tgt := 16) hx hb d_LT_begin_4 (by decide) (fun z => absurd z (by decide)) (fun _ => ?_)
  refine lv_iload_n hx hb d_LT_begin_7 rfl (lv_at hl 2 rfl) ?_
  refine lv_if_lt (tgt := 16) hx hb d_LT_begin_8 (by decide) (fun h8 => ?_) (fun h8 => ?_)
  · exact absurd g2 (Int32.not_le.mpr h8)
  · refine lv_iload_n hx hb d_LT_begin_11 rfl (lv_at hl 2 rfl) ?_
    refine lv_iconst (v := 3) hx hb d_LT_begin_12 (by decide) ?_
    refine lv_icmp_le (tgt := 26) hx hb d_LT_begin_13 (by decide) (fun h13 => ?_) (fun h13 => ?_)
    · refine lv_iload_n hx hb d_LT_begin_26 rfl (lv_at hl 2 rfl) ?_
      refine lv_iconst (v := 3) hx hb d_LT_begin_27 (by decide) ?_
      refine lv_icmp_eq (tgt := 52) hx hb d_LT_begin_28 (by decide) (fun h28 => ?_) (fun h28 => ?_)
      · refine lv_aload_n hx hb d_LT_begin_52 rfl (lv_at hl 0 rfl) ?_
        refine ct_get X h (q0 := 0) (by omega) rfl rfl gl_LT 2 (by decide) rfl gf_LT_28 rfl d_LT_begin_53 ?_
        refine lv_iload_n hx hb d_LT_begin_56 rfl (lv_at hl 1 rfl) ?_
        refine lt_taq X h (j := t) (by omega) d_LT_begin_57 ?_
        refine lv_astore hx hb d_LT_begin_58 hl (by decide) rfl (fun ls hl => ?_)
        have hl : lv_has ls 6 [(5, .ref (ad (80 + t))), (0, .ref (ad 0)), (1, .int (nI t)), (2, .int o), (3, .int k), (4, .int v)] := hl
        refine lv_aload hx hb d_LT_begin_60 (lv_at hl 0 rfl) ?_
        refine ct_get X h (q0 := 80 + t) (by omega) (lk_ce_t (by omega)) rfl gl_TA 2 (by decide) rfl gf_LT_60 rfl d_LT_begin_62 ?_
        refine lk_top 0 (hbu) ?_
        refine lv_if_ne (tgt := 78) hx hb d_LT_begin_65 (by decide) (fun z => absurd z (by decide)) (fun _ => ?_)
        exact lk_thr hl0 X rfl hT hE h ht (lk_siteS 66 _ (List.mem_of_getElem? (i := 2) rfl)) hl.1 d_LT_begin_68 d_LT_begin_71 d_LT_begin_72 d_LT_begin_74 d_LT_begin_77 (by decide)
      · obtain ⟨g5, g6⟩ := g4.resolve_left h28
        refine lv_iload_n hx hb d_LT_begin_31 rfl (lv_at hl 3 rfl) ?_
        refine lv_if_lt (tgt := 42) hx hb d_LT_begin_32 (by decide) (fun h32 => ?_) (fun h32 => ?_)
        · exact absurd g5 (Int32.not_le.mpr h32)
        · refine lv_iload_n hx hb d_LT_begin_35 rfl (lv_at hl 3 rfl) ?_
          refine lv_sipush (v := 999) hx hb d_LT_begin_36 (by decide) ?_
          refine lv_icmp_le (tgt := 52) hx hb d_LT_begin_39 (by decide) (fun h39 => ?_) (fun h39 => ?_)
          · refine lv_aload_n hx hb d_LT_begin_52 rfl (lv_at hl 0 rfl) ?_
            refine ct_get X h (q0 := 0) (by omega) rfl rfl gl_LT 2 (by decide) rfl gf_LT_28 rfl d_LT_begin_53 ?_
            refine lv_iload_n hx hb d_LT_begin_56 rfl (lv_at hl 1 rfl) ?_
            refine lt_taq X h (j := t) (by omega) d_LT_begin_57 ?_
            refine lv_astore hx hb d_LT_begin_58 hl (by decide) rfl (fun ls hl => ?_)
            have hl : lv_has ls 6 [(5, .ref (ad (80 + t))), (0, .ref (ad 0)), (1, .int (nI t)), (2, .int o), (3, .int k), (4, .int v)] := hl
            refine lv_aload hx hb d_LT_begin_60 (lv_at hl 0 rfl) ?_
            refine ct_get X h (q0 := 80 + t) (by omega) (lk_ce_t (by omega)) rfl gl_TA 2 (by decide) rfl gf_LT_60 rfl d_LT_begin_62 ?_
            refine lk_top 0 (hbu) ?_
            refine lv_if_ne (tgt := 78) hx hb d_LT_begin_65 (by decide) (fun z => absurd z (by decide)) (fun _ => ?_)
            exact lk_thr hl0 X rfl hT hE h ht (lk_siteS 66 _ (List.mem_of_getElem? (i := 2) rfl)) hl.1 d_LT_begin_68 d_LT_begin_71 d_LT_begin_72 d_LT_begin_74 d_LT_begin_77 (by decide)
          · exact absurd g6 h39
    · exact absurd g3 h13
set_option maxRecDepth 20000 in
theorem c_LT_step_bad (l : Launch) (hl0 : l.stackTraces = false) (D : va_G) (τ : Nat → ClassId) (ad : Nat → Nat) (M : lk_M) (x : Int32) (h1 : ¬ (0 ≤ x ∧ x ≤ 3)) : lk_Xi l D τ 88 ad (lk_ce τ ad) y_LT_step b_LT_step 4 (.int) 6 82 [.ref (ad 0), .int x] M lk_eI := by
  refine lk_openX (mk := fun A => va_Qi (fun _ (_ : lk_M) => False) (lk_Bh D τ 88 ad (lk_ce τ ad)) A) (by decide +kernel) (Nat.le_of_ble_eq_true rfl) ?_
  intro pg en s m args below meth cd ls A X h hA hl hT hE ht
  obtain ⟨hx, hb, -⟩ := id X
  have hl : lv_has ls 4 [(0, .ref (ad 0)), (1, .int x)] := hl
  refine lv_iload_n hx hb d_LT_step_0 rfl (lv_at hl 1 rfl) ?_
  refine lk_goi (lk_runS (As := [.int x]) X h (c_LT_isTask_no l D τ ad M x h1) ⟨gc_LT_isTask, gm_LT_47, gn_LT, gd_LT_isTask, by decide, by decide⟩ gt_LT_isTask rfl hl.1 (Nat.le_of_ble_eq_true rfl) d_LT_step_1 ⟨Nat.zero_le _, Nat.zero_le _⟩) h hA (fun r1 σ1 H locs hk9 h => ?_)
  rw [hk9.2] at h
  rw [hk9.1]
  refine lv_if_ne (tgt := 17) hx hb d_LT_step_4 (by decide) (fun z => absurd z (by decide)) (fun _ => ?_)
  exact lk_thr hl0 X rfl hT hE h ht (lk_siteI 88 _ (List.mem_of_getElem? (i := 3) rfl)) hl.1 d_LT_step_7 d_LT_step_10 d_LT_step_11 d_LT_step_13 d_LT_step_16 (by decide)
set_option maxRecDepth 20000 in
theorem c_LT_step_no (l : Launch) (hl0 : l.stackTraces = false) (D : va_G) (τ : Nat → ClassId) (ad : Nat → Nat) (M : lk_M) (t : Nat) (ht0 : t < 4) (hbu : M 11 t = 1) : lk_Xi l D τ 88 ad (lk_ce τ ad) y_LT_step b_LT_step 4 (.int) 6 82 [.ref (ad 0), .int (nI t)] M lk_eS := by
  refine lk_openX (mk := fun A => va_Qi (fun _ (_ : lk_M) => False) (lk_Bh D τ 88 ad (lk_ce τ ad)) A) (by decide +kernel) (Nat.le_of_ble_eq_true rfl) ?_
  intro pg en s m args below meth cd ls A X h hA hl hT hE ht
  obtain ⟨hx, hb, -⟩ := id X
  have hl : lv_has ls 4 [(0, .ref (ad 0)), (1, .int (nI t))] := hl
  refine lv_iload_n hx hb d_LT_step_0 rfl (lv_at hl 1 rfl) ?_
  refine lk_goi (lk_runS (As := [.int (nI t)]) X h (c_LT_isTask l D τ ad M t ht0) ⟨gc_LT_isTask, gm_LT_47, gn_LT, gd_LT_isTask, by decide, by decide⟩ gt_LT_isTask rfl hl.1 (Nat.le_of_ble_eq_true rfl) d_LT_step_1 ⟨Nat.zero_le _, Nat.zero_le _⟩) h hA (fun r1 σ1 H locs hk9 h => ?_)
  rw [hk9.2] at h
  rw [hk9.1]
  refine lv_if_ne (tgt := 17) hx hb d_LT_step_4 (by decide) (fun _ => ?_) (fun z => absurd z (by decide))
  refine lv_aload_n hx hb d_LT_step_17 rfl (lv_at hl 0 rfl) ?_
  refine ct_get X h (q0 := 0) (by omega) rfl rfl gl_LT 2 (by decide) rfl gf_LT_28 rfl d_LT_step_18 ?_
  refine lv_iload_n hx hb d_LT_step_21 rfl (lv_at hl 1 rfl) ?_
  refine lt_taq X h (j := t) (by omega) d_LT_step_22 ?_
  refine lv_astore_n hx hb d_LT_step_23 rfl hl (by decide) rfl (fun ls hl => ?_)
  have hl : lv_has ls 4 [(2, .ref (ad (80 + t))), (0, .ref (ad 0)), (1, .int (nI t))] := hl
  refine lv_aload_n hx hb d_LT_step_24 rfl (lv_at hl 0 rfl) ?_
  refine ct_get X h (q0 := 80 + t) (by omega) (lk_ce_t (by omega)) rfl gl_TA 2 (by decide) rfl gf_LT_60 rfl d_LT_step_25 ?_
  refine lk_top 1 (hbu) ?_
  refine lv_if_eq (tgt := 41) hx hb d_LT_step_28 (by decide) (fun z => absurd z (by decide)) (fun _ => ?_)
  exact lk_thr hl0 X rfl hT hE h ht (lk_siteS 90 _ (List.mem_of_getElem? (i := 4) rfl)) hl.1 d_LT_step_31 d_LT_step_34 d_LT_step_35 d_LT_step_37 d_LT_step_40 (by decide)
set_option maxRecDepth 20000 in
theorem c_LT_answer_bad (l : Launch) (hl0 : l.stackTraces = false) (D : va_G) (τ : Nat → ClassId) (ad : Nat → Nat) (M : lk_M) (x : Int32) (h1 : ¬ (0 ≤ x ∧ x ≤ 3)) : lk_Xi l D τ 88 ad (lk_ce τ ad) y_LT_answer b_LT_answer 3 (.int) 6 82 [.ref (ad 0), .int x] M lk_eI := by
  refine lk_openX (mk := fun A => va_Qi (fun _ (_ : lk_M) => False) (lk_Bh D τ 88 ad (lk_ce τ ad)) A) (by decide +kernel) (Nat.le_of_ble_eq_true rfl) ?_
  intro pg en s m args below meth cd ls A X h hA hl hT hE ht
  obtain ⟨hx, hb, -⟩ := id X
  have hl : lv_has ls 3 [(0, .ref (ad 0)), (1, .int x)] := hl
  refine lv_iload_n hx hb d_LT_answer_0 rfl (lv_at hl 1 rfl) ?_
  refine lk_goi (lk_runS (As := [.int x]) X h (c_LT_isTask_no l D τ ad M x h1) ⟨gc_LT_isTask, gm_LT_47, gn_LT, gd_LT_isTask, by decide, by decide⟩ gt_LT_isTask rfl hl.1 (Nat.le_of_ble_eq_true rfl) d_LT_answer_1 ⟨Nat.zero_le _, Nat.zero_le _⟩) h hA (fun r1 σ1 H locs hk9 h => ?_)
  rw [hk9.2] at h
  rw [hk9.1]
  refine lv_if_ne (tgt := 17) hx hb d_LT_answer_4 (by decide) (fun z => absurd z (by decide)) (fun _ => ?_)
  exact lk_thr hl0 X rfl hT hE h ht (lk_siteI 88 _ (List.mem_of_getElem? (i := 3) rfl)) hl.1 d_LT_answer_7 d_LT_answer_10 d_LT_answer_11 d_LT_answer_13 d_LT_answer_16 (by decide)
set_option maxRecDepth 20000 in
theorem c_LT_answer_no (l : Launch) (hl0 : l.stackTraces = false) (D : va_G) (τ : Nat → ClassId) (ad : Nat → Nat) (M : lk_M) (t : Nat) (ht0 : t < 4) (hbu : M 20 t = 0) : lk_Xi l D τ 88 ad (lk_ce τ ad) y_LT_answer b_LT_answer 3 (.int) 6 82 [.ref (ad 0), .int (nI t)] M lk_eN := by
  refine lk_openX (mk := fun A => va_Qi (fun _ (_ : lk_M) => False) (lk_Bh D τ 88 ad (lk_ce τ ad)) A) (by decide +kernel) (Nat.le_of_ble_eq_true rfl) ?_
  intro pg en s m args below meth cd ls A X h hA hl hT hE ht
  obtain ⟨hx, hb, -⟩ := id X
  have hl : lv_has ls 3 [(0, .ref (ad 0)), (1, .int (nI t))] := hl
  refine lv_iload_n hx hb d_LT_answer_0 rfl (lv_at hl 1 rfl) ?_
  refine lk_goi (lk_runS (As := [.int (nI t)]) X h (c_LT_isTask l D τ ad M t ht0) ⟨gc_LT_isTask, gm_LT_47, gn_LT, gd_LT_isTask, by decide, by decide⟩ gt_LT_isTask rfl hl.1 (Nat.le_of_ble_eq_true rfl) d_LT_answer_1 ⟨Nat.zero_le _, Nat.zero_le _⟩) h hA (fun r1 σ1 H locs hk9 h => ?_)
  rw [hk9.2] at h
  rw [hk9.1]
  refine lv_if_ne (tgt := 17) hx hb d_LT_answer_4 (by decide) (fun _ => ?_) (fun z => absurd z (by decide))
  refine lv_aload_n hx hb d_LT_answer_17 rfl (lv_at hl 0 rfl) ?_
  refine ct_get X h (q0 := 0) (by omega) rfl rfl gl_LT 2 (by decide) rfl gf_LT_28 rfl d_LT_answer_18 ?_
  refine lv_iload_n hx hb d_LT_answer_21 rfl (lv_at hl 1 rfl) ?_
  refine lt_taq X h (j := t) (by omega) d_LT_answer_22 ?_
  refine lv_astore_n hx hb d_LT_answer_23 rfl hl (by decide) rfl (fun ls hl => ?_)
  have hl : lv_has ls 3 [(2, .ref (ad (80 + t))), (0, .ref (ad 0)), (1, .int (nI t))] := hl
  refine lv_aload_n hx hb d_LT_answer_24 rfl (lv_at hl 0 rfl) ?_
  refine ct_get X h (q0 := 80 + t) (by omega) (lk_ce_t (by omega)) rfl gl_TA 10 (by decide) rfl gf_LT_102 rfl d_LT_answer_25 ?_
  refine lk_top 0 (hbu) ?_
  refine lv_if_ne (tgt := 41) hx hb d_LT_answer_28 (by decide) (fun z => absurd z (by decide)) (fun _ => ?_)
  exact lk_thrN hl0 X rfl hT hE h ht (lk_siteN 107 _ (List.mem_of_getElem? (i := 5) rfl)) rfl rfl hl.1 d_LT_answer_31 d_LT_answer_34 d_LT_answer_35 d_LT_answer_37 d_LT_answer_40 (by decide)
set_option maxRecDepth 20000 in
theorem c_LT_look_bad (l : Launch) (hl0 : l.stackTraces = false) (D : va_G) (τ : Nat → ClassId) (ad : Nat → Nat) (M : lk_M) (x y : Int32) (hbad : ¬ ((0 ≤ x ∧ x ≤ 3) ∧ (0 ≤ y ∧ y ≤ 8))) : lk_Xi l D τ 88 ad (lk_ce τ ad) y_LT_look b_LT_look 4 (.int) 6 82 [.ref (ad 0), .int x, .int y] M lk_eI := by
  refine lk_openX (mk := fun A => va_Qi (fun _ (_ : lk_M) => False) (lk_Bh D τ 88 ad (lk_ce τ ad)) A) (by decide +kernel) (Nat.le_of_ble_eq_true rfl) ?_
  intro pg en s m args below meth cd ls A X h hA hl hT hE ht
  obtain ⟨hx, hb, -⟩ := id X
  have hl : lv_has ls 4 [(0, .ref (ad 0)), (1, .int x), (2, .int y)] := hl
  by_cases h1 : 0 ≤ x ∧ x ≤ 3
  · obtain ⟨j, hj, rfl⟩ := lk_in4 h1
    refine lv_iload_n hx hb d_LT_look_0 rfl (lv_at hl 1 rfl) ?_
    refine lk_goi (lk_runS (As := [.int (nI j)]) X h (c_LT_isTask l D τ ad M j hj) ⟨gc_LT_isTask, gm_LT_47, gn_LT, gd_LT_isTask, by decide, by decide⟩ gt_LT_isTask rfl hl.1 (Nat.le_of_ble_eq_true rfl) d_LT_look_1 ⟨Nat.zero_le _, Nat.zero_le _⟩) h hA (fun r1 σ1 H locs hk9 h => ?_)
    rw [hk9.2] at h
    rw [hk9.1]
    refine lv_if_eq (tgt := 17) hx hb d_LT_look_4 (by decide) (fun z => absurd z (by decide)) (fun _ => ?_)
    refine lv_iload_n hx hb d_LT_look_7 rfl (lv_at hl 2 rfl) ?_
    refine lv_if_lt (tgt := 17) hx hb d_LT_look_8 (by decide) (fun h8 => ?_) (fun h8 => ?_)
    · exact lk_thr hl0 X rfl hT hE h ht (lk_siteI 113 _ (List.mem_of_getElem? (i := 6) rfl)) hl.1 d_LT_look_17 d_LT_look_20 d_LT_look_21 d_LT_look_23 d_LT_look_26 (by decide)
    · refine lv_iload_n hx hb d_LT_look_11 rfl (lv_at hl 2 rfl) ?_
      refine lv_bipush (v := 8) hx hb d_LT_look_12 (by decide) ?_
      refine lv_icmp_le (tgt := 27) hx hb d_LT_look_14 (by decide) (fun h14 => ?_) (fun h14 => ?_)
      · exact absurd ⟨h1, Int32.not_lt.mp h8, h14⟩ hbad
      · exact lk_thr hl0 X rfl hT hE h ht (lk_siteI 113 _ (List.mem_of_getElem? (i := 6) rfl)) hl.1 d_LT_look_17 d_LT_look_20 d_LT_look_21 d_LT_look_23 d_LT_look_26 (by decide)
  · refine lv_iload_n hx hb d_LT_look_0 rfl (lv_at hl 1 rfl) ?_
    refine lk_goi (lk_runS (As := [.int x]) X h (c_LT_isTask_no l D τ ad M x h1) ⟨gc_LT_isTask, gm_LT_47, gn_LT, gd_LT_isTask, by decide, by decide⟩ gt_LT_isTask rfl hl.1 (Nat.le_of_ble_eq_true rfl) d_LT_look_1 ⟨Nat.zero_le _, Nat.zero_le _⟩) h hA (fun r1 σ1 H locs hk9 h => ?_)
    rw [hk9.2] at h
    rw [hk9.1]
    refine lv_if_eq (tgt := 17) hx hb d_LT_look_4 (by decide) (fun _ => ?_) (fun z => absurd z (by decide))
    exact lk_thr hl0 X rfl hT hE h ht (lk_siteI 113 _ (List.mem_of_getElem? (i := 6) rfl)) hl.1 d_LT_look_17 d_LT_look_20 d_LT_look_21 d_LT_look_23 d_LT_look_26 (by decide)
set_option maxRecDepth 20000 in
theorem c_LT_page_bad (l : Launch) (hl0 : l.stackTraces = false) (D : va_G) (τ : Nat → ClassId) (ad : Nat → Nat) (M : lk_M) (x y : Int32) (hbad : ¬ ((0 ≤ x ∧ x ≤ 23) ∧ (0 ≤ y ∧ y ≤ 6))) : lk_Xi l D τ 88 ad (lk_ce τ ad) y_LT_page b_LT_page 4 (.int) 6 82 [.ref (ad 0), .int x, .int y] M lk_eI := by
  refine lk_openX (mk := fun A => va_Qi (fun _ (_ : lk_M) => False) (lk_Bh D τ 88 ad (lk_ce τ ad)) A) (by decide +kernel) (Nat.le_of_ble_eq_true rfl) ?_
  intro pg en s m args below meth cd ls A X h hA hl hT hE ht
  obtain ⟨hx, hb, -⟩ := id X
  have hl : lv_has ls 4 [(0, .ref (ad 0)), (1, .int x), (2, .int y)] := hl
  by_cases h1 : 0 ≤ x ∧ x ≤ 23
  · obtain ⟨j, hj, rfl⟩ := lk_in24 h1
    refine lv_iload_n hx hb d_LT_page_0 rfl (lv_at hl 1 rfl) ?_
    refine lk_goi (lk_runS (As := [.int (nI j)]) X h (c_LT_isPage l D τ ad M j hj) ⟨gc_LT_isPage, gm_LT_127, gn_LT, gd_LT_isPage, by decide, by decide⟩ gt_LT_isPage rfl hl.1 (Nat.le_of_ble_eq_true rfl) d_LT_page_1 ⟨Nat.zero_le _, Nat.zero_le _⟩) h hA (fun r1 σ1 H locs hk9 h => ?_)
    rw [hk9.2] at h
    rw [hk9.1]
    refine lv_if_eq (tgt := 17) hx hb d_LT_page_4 (by decide) (fun z => absurd z (by decide)) (fun _ => ?_)
    refine lv_iload_n hx hb d_LT_page_7 rfl (lv_at hl 2 rfl) ?_
    refine lv_if_lt (tgt := 17) hx hb d_LT_page_8 (by decide) (fun h8 => ?_) (fun h8 => ?_)
    · exact lk_thr hl0 X rfl hT hE h ht (lk_siteI 130 _ (List.mem_of_getElem? (i := 7) rfl)) hl.1 d_LT_page_17 d_LT_page_20 d_LT_page_21 d_LT_page_23 d_LT_page_26 (by decide)
    · refine lv_iload_n hx hb d_LT_page_11 rfl (lv_at hl 2 rfl) ?_
      refine lv_bipush (v := 6) hx hb d_LT_page_12 (by decide) ?_
      refine lv_icmp_le (tgt := 27) hx hb d_LT_page_14 (by decide) (fun h14 => ?_) (fun h14 => ?_)
      · exact absurd ⟨h1, Int32.not_lt.mp h8, h14⟩ hbad
      · exact lk_thr hl0 X rfl hT hE h ht (lk_siteI 130 _ (List.mem_of_getElem? (i := 7) rfl)) hl.1 d_LT_page_17 d_LT_page_20 d_LT_page_21 d_LT_page_23 d_LT_page_26 (by decide)
  · refine lv_iload_n hx hb d_LT_page_0 rfl (lv_at hl 1 rfl) ?_
    refine lk_goi (lk_runS (As := [.int x]) X h (c_LT_isPage_no l D τ ad M x h1) ⟨gc_LT_isPage, gm_LT_127, gn_LT, gd_LT_isPage, by decide, by decide⟩ gt_LT_isPage rfl hl.1 (Nat.le_of_ble_eq_true rfl) d_LT_page_1 ⟨Nat.zero_le _, Nat.zero_le _⟩) h hA (fun r1 σ1 H locs hk9 h => ?_)
    rw [hk9.2] at h
    rw [hk9.1]
    refine lv_if_eq (tgt := 17) hx hb d_LT_page_4 (by decide) (fun _ => ?_) (fun z => absurd z (by decide))
    exact lk_thr hl0 X rfl hT hE h ht (lk_siteI 130 _ (List.mem_of_getElem? (i := 7) rfl)) hl.1 d_LT_page_17 d_LT_page_20 d_LT_page_21 d_LT_page_23 d_LT_page_26 (by decide)
set_option maxRecDepth 20000 in
theorem c_LT_entry_bad (l : Launch) (hl0 : l.stackTraces = false) (D : va_G) (τ : Nat → ClassId) (ad : Nat → Nat) (M : lk_M) (h24 : M 0 24 = 2) (x k z : Int32) (hbad : ¬ lk_isn M x) : lk_Xi l D τ 88 ad (lk_ce τ ad) y_LT_entry b_LT_entry 5 (.int) 6 82 [.ref (ad 0), .int x, .int k, .int z] M lk_eN := by
  refine lk_openX (mk := fun A => va_Qi (fun _ (_ : lk_M) => False) (lk_Bh D τ 88 ad (lk_ce τ ad)) A) (by decide +kernel) (Nat.le_of_ble_eq_true rfl) ?_
  intro pg en s m args below meth cd ls A X h hA hl hT hE ht
  obtain ⟨hx, hb, -⟩ := id X
  have hl : lv_has ls 5 [(0, .ref (ad 0)), (1, .int x), (2, .int k), (3, .int z)] := hl
  by_cases h1 : 0 ≤ x ∧ x ≤ 23
  · obtain ⟨j, hj, rfl⟩ := lk_in24 h1
    have hkd : M 0 j ≠ 1 := fun z => hbad ⟨j, hj, rfl, z⟩
    refine lv_aload_n hx hb d_LT_entry_0 rfl (lv_at hl 0 rfl) ?_
    refine lv_iload_n hx hb d_LT_entry_1 rfl (lv_at hl 1 rfl) ?_
    refine lk_goq (lk_runV (As := [.int (nI j)]) (C := R_LT) X h (c_LT_nodeAt l D τ ad _ j hj) ⟨gc_LT_nodeAt, gm_LT_148, gn_LT, gd_LT_nodeAt, by decide, by decide⟩ gi_LT_nodeAt gs_LT_nodeAt ⟨0, 0, _, _, _, lk_w_get (by decide), rfl⟩ rfl hl.1 (Nat.le_of_ble_eq_true rfl) d_LT_entry_2 ⟨Nat.zero_le _, Nat.zero_le _⟩) h hA (fun r2 σ2 H locs hk9 h => ?_)
    rw [hk9.2] at h
    rw [hk9.1, show va_rf (some (ad (5 + j))) = .ref (ad (5 + j)) from rfl]
    refine lv_astore hx hb d_LT_entry_5 hl (by decide) rfl (fun ls hl => ?_)
    have hl : lv_has ls 5 [(4, .ref (ad (5 + j))), (0, .ref (ad 0)), (1, .int (nI j)), (2, .int k), (3, .int z)] := hl
    refine lv_aload hx hb d_LT_entry_7 (lv_at hl 0 rfl) ?_
    refine ct_get X h (q0 := 5 + j) (by omega) (lk_ce_n (by omega)) rfl gl_ND 4 (by decide) rfl gf_LT_22 rfl d_LT_entry_9 ?_
    refine lv_iconst (v := 1) hx hb d_LT_entry_12 (by decide) ?_
    refine lv_icmp_ne (tgt := 29) hx hb d_LT_entry_13 (by decide) (fun h9 => ?_) (fun h9 => ?_)
    · exact lk_thrN hl0 X rfl hT hE h ht (lk_siteN 152 _ (List.mem_of_getElem? (i := 8) rfl)) rfl rfl hl.1 d_LT_entry_29 d_LT_entry_32 d_LT_entry_33 d_LT_entry_35 d_LT_entry_38 (by decide)
    · exact absurd h9 hkd
  · refine lv_aload_n hx hb d_LT_entry_0 rfl (lv_at hl 0 rfl) ?_
    refine lv_iload_n hx hb d_LT_entry_1 rfl (lv_at hl 1 rfl) ?_
    refine lk_goq (lk_runV (As := [.int x]) (C := R_LT) X h (c_LT_nodeAt_no l D τ ad M x h1) ⟨gc_LT_nodeAt, gm_LT_148, gn_LT, gd_LT_nodeAt, by decide, by decide⟩ gi_LT_nodeAt gs_LT_nodeAt ⟨0, 0, _, _, _, lk_w_get (by decide), rfl⟩ rfl hl.1 (Nat.le_of_ble_eq_true rfl) d_LT_entry_2 ⟨Nat.zero_le _, Nat.zero_le _⟩) h hA (fun r2 σ2 H locs hk9 h => ?_)
    rw [hk9.2] at h
    rw [hk9.1, show va_rf (some (ad (5 + 24))) = .ref (ad (5 + 24)) from rfl]
    refine lv_astore hx hb d_LT_entry_5 hl (by decide) rfl (fun ls hl => ?_)
    have hl : lv_has ls 5 [(4, .ref (ad (5 + 24))), (0, .ref (ad 0)), (1, .int x), (2, .int k), (3, .int z)] := hl
    refine lv_aload hx hb d_LT_entry_7 (lv_at hl 0 rfl) ?_
    refine ct_get X h (q0 := 5 + 24) (by omega) (lk_ce_n (by omega)) rfl gl_ND 4 (by decide) rfl gf_LT_22 rfl d_LT_entry_9 ?_
    refine lk_top 2 (h24) ?_
    refine lv_iconst (v := 1) hx hb d_LT_entry_12 (by decide) ?_
    refine lv_icmp_ne (tgt := 29) hx hb d_LT_entry_13 (by decide) (fun _ => ?_) (fun z => absurd z (by decide))
    exact lk_thrN hl0 X rfl hT hE h ht (lk_siteN 152 _ (List.mem_of_getElem? (i := 8) rfl)) rfl rfl hl.1 d_LT_entry_29 d_LT_entry_32 d_LT_entry_33 d_LT_entry_35 d_LT_entry_38 (by decide)
set_option maxRecDepth 20000 in
theorem c_LT_under_bad (l : Launch) (hl0 : l.stackTraces = false) (D : va_G) (τ : Nat → ClassId) (ad : Nat → Nat) (M : lk_M) (h24 : M 0 24 = 2) (x : Int32) (hbad : ¬ lk_isn M x) : lk_Xi l D τ 88 ad (lk_ce τ ad) y_LT_under b_LT_under 3 (.int) 6 82 [.ref (ad 0), .int x] M lk_eN := by
  refine lk_openX (mk := fun A => va_Qi (fun _ (_ : lk_M) => False) (lk_Bh D τ 88 ad (lk_ce τ ad)) A) (by decide +kernel) (Nat.le_of_ble_eq_true rfl) ?_
  intro pg en s m args below meth cd ls A X h hA hl hT hE ht
  obtain ⟨hx, hb, -⟩ := id X
  have hl : lv_has ls 3 [(0, .ref (ad 0)), (1, .int x)] := hl
  by_cases h1 : 0 ≤ x ∧ x ≤ 23
  · obtain ⟨j, hj, rfl⟩ := lk_in24 h1
    have hkd : M 0 j ≠ 1 := fun z => hbad ⟨j, hj, rfl, z⟩
    refine lv_aload_n hx hb d_LT_under_0 rfl (lv_at hl 0 rfl) ?_
    refine lv_iload_n hx hb d_LT_under_1 rfl (lv_at hl 1 rfl) ?_
    refine lk_goq (lk_runV (As := [.int (nI j)]) (C := R_LT) X h (c_LT_nodeAt l D τ ad _ j hj) ⟨gc_LT_nodeAt, gm_LT_148, gn_LT, gd_LT_nodeAt, by decide, by decide⟩ gi_LT_nodeAt gs_LT_nodeAt ⟨0, 0, _, _, _, lk_w_get (by decide), rfl⟩ rfl hl.1 (Nat.le_of_ble_eq_true rfl) d_LT_under_2 ⟨Nat.zero_le _, Nat.zero_le _⟩) h hA (fun r2 σ2 H locs hk9 h => ?_)
    rw [hk9.2] at h
    rw [hk9.1, show va_rf (some (ad (5 + j))) = .ref (ad (5 + j)) from rfl]
    refine lv_astore_n hx hb d_LT_under_5 rfl hl (by decide) rfl (fun ls hl => ?_)
    have hl : lv_has ls 3 [(2, .ref (ad (5 + j))), (0, .ref (ad 0)), (1, .int (nI j))] := hl
    refine lv_aload_n hx hb d_LT_under_6 rfl (lv_at hl 0 rfl) ?_
    refine ct_get X h (q0 := 5 + j) (by omega) (lk_ce_n (by omega)) rfl gl_ND 4 (by decide) rfl gf_LT_22 rfl d_LT_under_7 ?_
    refine lv_iconst (v := 1) hx hb d_LT_under_10 (by decide) ?_
    refine lv_icmp_eq (tgt := 24) hx hb d_LT_under_11 (by decide) (fun h9 => ?_) (fun h9 => ?_)
    · exact absurd h9 hkd
    · exact lk_thrN hl0 X rfl hT hE h ht (lk_siteN 162 _ (List.mem_of_getElem? (i := 9) rfl)) rfl rfl hl.1 d_LT_under_14 d_LT_under_17 d_LT_under_18 d_LT_under_20 d_LT_under_23 (by decide)
  · refine lv_aload_n hx hb d_LT_under_0 rfl (lv_at hl 0 rfl) ?_
    refine lv_iload_n hx hb d_LT_under_1 rfl (lv_at hl 1 rfl) ?_
    refine lk_goq (lk_runV (As := [.int x]) (C := R_LT) X h (c_LT_nodeAt_no l D τ ad M x h1) ⟨gc_LT_nodeAt, gm_LT_148, gn_LT, gd_LT_nodeAt, by decide, by decide⟩ gi_LT_nodeAt gs_LT_nodeAt ⟨0, 0, _, _, _, lk_w_get (by decide), rfl⟩ rfl hl.1 (Nat.le_of_ble_eq_true rfl) d_LT_under_2 ⟨Nat.zero_le _, Nat.zero_le _⟩) h hA (fun r2 σ2 H locs hk9 h => ?_)
    rw [hk9.2] at h
    rw [hk9.1, show va_rf (some (ad (5 + 24))) = .ref (ad (5 + 24)) from rfl]
    refine lv_astore_n hx hb d_LT_under_5 rfl hl (by decide) rfl (fun ls hl => ?_)
    have hl : lv_has ls 3 [(2, .ref (ad (5 + 24))), (0, .ref (ad 0)), (1, .int x)] := hl
    refine lv_aload_n hx hb d_LT_under_6 rfl (lv_at hl 0 rfl) ?_
    refine ct_get X h (q0 := 5 + 24) (by omega) (lk_ce_n (by omega)) rfl gl_ND 4 (by decide) rfl gf_LT_22 rfl d_LT_under_7 ?_
    refine lk_top 2 (h24) ?_
    refine lv_iconst (v := 1) hx hb d_LT_under_10 (by decide) ?_
    refine lv_icmp_eq (tgt := 24) hx hb d_LT_under_11 (by decide) (fun z => absurd z (by decide)) (fun _ => ?_)
    exact lk_thrN hl0 X rfl hT hE h ht (lk_siteN 162 _ (List.mem_of_getElem? (i := 9) rfl)) rfl rfl hl.1 d_LT_under_14 d_LT_under_17 d_LT_under_18 d_LT_under_20 d_LT_under_23 (by decide)
set_option maxRecDepth 20000 in
theorem c_LT_entry_no (l : Launch) (hl0 : l.stackTraces = false) (D : va_G) (τ : Nat → ClassId) (ad : Nat → Nat) (M : lk_M) (p n : Nat) (hp : p < 24) (hkd : M 0 p = 1) (hc : M 5 p = nI n) (hn : n ≤ 5) (k z : Int32) (hbad : ¬ ∃ j : Nat, j < n ∧ k = nI j) : lk_Xi l D τ 88 ad (lk_ce τ ad) y_LT_entry b_LT_entry 5 (.int) 6 82 [.ref (ad 0), .int (nI p), .int k, .int z] M lk_eN := by
  refine lk_openX (mk := fun A => va_Qi (fun _ (_ : lk_M) => False) (lk_Bh D τ 88 ad (lk_ce τ ad)) A) (by decide +kernel) (Nat.le_of_ble_eq_true rfl) ?_
  intro pg en s m args below meth cd ls A X h hA hl hT hE ht
  obtain ⟨hx, hb, -⟩ := id X
  have hl : lv_has ls 5 [(0, .ref (ad 0)), (1, .int (nI p)), (2, .int k), (3, .int z)] := hl
  refine lv_aload_n hx hb d_LT_entry_0 rfl (lv_at hl 0 rfl) ?_
  refine lv_iload_n hx hb d_LT_entry_1 rfl (lv_at hl 1 rfl) ?_
  refine lk_goq (lk_runV (As := [.int (nI p)]) (C := R_LT) X h (c_LT_nodeAt l D τ ad _ p hp) ⟨gc_LT_nodeAt, gm_LT_148, gn_LT, gd_LT_nodeAt, by decide, by decide⟩ gi_LT_nodeAt gs_LT_nodeAt ⟨0, 0, _, _, _, lk_w_get (by decide), rfl⟩ rfl hl.1 (Nat.le_of_ble_eq_true rfl) d_LT_entry_2 ⟨Nat.zero_le _, Nat.zero_le _⟩) h hA (fun r2 σ2 H locs hk9 h => ?_)
  rw [hk9.2] at h
  rw [hk9.1, show va_rf (some (ad (5 + p))) = .ref (ad (5 + p)) from rfl]
  refine lv_astore hx hb d_LT_entry_5 hl (by decide) rfl (fun ls hl => ?_)
  have hl : lv_has ls 5 [(4, .ref (ad (5 + p))), (0, .ref (ad 0)), (1, .int (nI p)), (2, .int k), (3, .int z)] := hl
  refine lv_aload hx hb d_LT_entry_7 (lv_at hl 0 rfl) ?_
  refine ct_get X h (q0 := 5 + p) (by omega) (lk_ce_n (by omega)) rfl gl_ND 4 (by decide) rfl gf_LT_22 rfl d_LT_entry_9 ?_
  refine lk_top 1 (hkd) ?_
  refine lv_iconst (v := 1) hx hb d_LT_entry_12 (by decide) ?_
  refine lv_icmp_ne (tgt := 29) hx hb d_LT_entry_13 (by decide) (fun z => absurd z (by decide)) (fun _ => ?_)
  refine lv_iload_n hx hb d_LT_entry_16 rfl (lv_at hl 3 rfl) ?_
  refine lv_if_lt (tgt := 29) hx hb d_LT_entry_17 (by decide) (fun h17 => ?_) (fun h17 => ?_)
  · exact lk_thrN hl0 X rfl hT hE h ht (lk_siteN 152 _ (List.mem_of_getElem? (i := 8) rfl)) rfl rfl hl.1 d_LT_entry_29 d_LT_entry_32 d_LT_entry_33 d_LT_entry_35 d_LT_entry_38 (by decide)
  · refine lv_iload_n hx hb d_LT_entry_20 rfl (lv_at hl 3 rfl) ?_
    refine lv_aload hx hb d_LT_entry_21 (lv_at hl 0 rfl) ?_
    refine ct_get X h (q0 := 5 + p) (by omega) (lk_ce_n (by omega)) rfl gl_ND 3 (by decide) rfl gf_LT_142 rfl d_LT_entry_23 ?_
    refine lk_top (nI n) (hc) ?_
    refine lv_icmp_lt (tgt := 39) hx hb d_LT_entry_26 (by decide) (fun h26 => ?_) (fun h26 => ?_)
    · obtain ⟨j, hj, rfl⟩ := nI_of (x := k) h17
      rw [Int32.lt_iff_toInt_lt, nI_toInt hj, nI_toInt (by omega)] at h26
      exact absurd ⟨j, by omega, rfl⟩ hbad
    · exact lk_thrN hl0 X rfl hT hE h ht (lk_siteN 152 _ (List.mem_of_getElem? (i := 8) rfl)) rfl rfl hl.1 d_LT_entry_29 d_LT_entry_32 d_LT_entry_33 d_LT_entry_35 d_LT_entry_38 (by decide)
