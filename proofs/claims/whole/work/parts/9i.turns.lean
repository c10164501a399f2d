/-! the turns of the law's loop -/
def lk_LV (i b : Nat) (adC adM : Nat → Nat) : List (Nat × Value) := [(4, .int (nI i)), (0, .ref b), (1, .ref (adC 0)), (2, .ref (adM 0)), (3, .ref (adC 88))]
def lk_LX (p : Program) (s : State) (m : MethodId) (meth : Method) (c : Code) (b L : Nat) (xs : Nat → Int32) (D : va_G) (τ : Nat → ClassId) (A : Nat → Prop) : Prop :=
  lk_X p s m #[Value.ref b] meth c y_LW_law b_LW_law 7 ret D τ ∧ (∀ w ∈ lw_tbl, w.before #[Value.ref b] s = true) ∧ lk_En A s s.heap ∧ (∀ q, s.heap.size ≤ q → A q) ∧ va_X b L xs s s.heap ∧ b < s.heap.size ∧ ¬ A b ∧ L ≤ 2560
theorem lk_cw_begin : Cond.codeWith y_LW_begin b_LW_begin 6 (some .int) [(0, 9, 12, 13), (0, 9, 16, 15)] ∈ lw_tbl := List.mem_append_right _ (List.mem_of_getElem? (i := 176) (by decide +kernel))
theorem lk_cw_step : Cond.codeWith y_LW_step b_LW_step 4 (some .int) [(0, 9, 12, 13), (0, 9, 15, 15)] ∈ lw_tbl := List.mem_append_right _ (List.mem_of_getElem? (i := 296) (by decide +kernel))
theorem lk_cw_answer : Cond.codeWith y_LW_answer b_LW_answer 4 (some .int) [(0, 9, 12, 13), (0, 9, 15, 24)] ∈ lw_tbl := List.mem_append_right _ (List.mem_of_getElem? (i := 451) (by decide +kernel))
theorem lk_cw_look : Cond.codeWith y_LW_look b_LW_look 5 (some .int) [(0, 10, 13, 13)] ∈ lw_tbl := List.mem_append_right _ (List.mem_of_getElem? (i := 475) (by decide +kernel))
theorem lk_cw_page : Cond.codeWith y_LW_page b_LW_page 5 (some .int) [(0, 10, 13, 13)] ∈ lw_tbl := List.mem_append_right _ (List.mem_of_getElem? (i := 483) (by decide +kernel))
theorem lk_cw_entry : Cond.codeWith y_LW_entry b_LW_entry 6 (some .int) [(0, 12, 15, 24)] ∈ lw_tbl := List.mem_append_right _ (List.mem_of_getElem? (i := 491) (by decide +kernel))
theorem lk_cw_under : Cond.codeWith y_LW_under b_LW_under 4 (some .int) [(0, 9, 12, 24)] ∈ lw_tbl := List.mem_append_right _ (List.mem_of_getElem? (i := 499) (by decide +kernel))
theorem lk_cmp0 {x y : Int64} (h : x = y) : lg_cmp x y = 0 := by
  subst h
  unfold lg_cmp
  simp
section Turns
variable {p : Program} {l : Launch} {e : Env} {s : State} {m : MethodId} {below : List Frame} {meth : Method} {c : Code} {H : Heap} {locs : List Loc} {cells slots : Nat} {Q : State → Prop} {R : Room}
variable {D : va_G} {τ : Nat → ClassId} {adC adM : Nat → Nat} {C M : lk_M} {A : Nat → Prop} {pc i b L : Nat} {xs : Nat → Int32} {ls : Array Slot} {rest : List Value}
theorem lk_drop {q : Nat × Value} {lv : List (Nat × Value)} (h : lv_has ls 7 (q :: lv)) : lv_has ls 7 lv := ⟨h.1, h.2.1, fun z hz => h.2.2 z (List.mem_cons_of_mem _ hz)⟩
theorem lk_sld (LX : lk_LX p s m meth c b L xs D τ A) (J : lk_J D τ A s.heap adC adM C M H locs) {k : Nat} (hk : k < L) (hdg : decode b_LW_law pc = .ok (.iaload, 1)) (kk : W p l e R s m #[Value.ref b] below meth c H locs cells slots Q (F0 m (pc + 1) ls (.int (xs k) :: rest))) : W p l e R s m #[Value.ref b] below meth c H locs cells slots Q (F0 m pc ls (.int (nI k) :: .ref b :: rest)) := by
  obtain ⟨X, -, -, -, hX, hbl, hbA, hL⟩ := LX
  refine va_sld X.1 X.2.1 hX hbl hbA J.1.S (i := nI k) (vp_in_nI hk (by omega)) hdg ?_
  rw [nI_clamp (by omega)]
  exact kk
/-- the script's int at the counter and d -/
theorem lk_rd {d : Nat} {v : Int} {lv : List (Nat × Value)} {k0 k4 : Nat} (LX : lk_LX p s m meth c b L xs D τ A) (J : lk_J D τ A s.heap adC adM C M H locs) (hl : lv_has ls 7 lv) (h0 : lv[k0]? = some (0, .ref b)) (h4 : lv[k4]? = some (4, .int (nI i))) (hi : i + d < L) (hv : Int32.ofInt v = nI d) (d0 : decode b_LW_law pc = .ok (.aload_n 0, 1)) (d1 : decode b_LW_law (pc + 1) = .ok (.iload 4, 2)) (d2 : decode b_LW_law (pc + 3) = .ok (.iconst v, 1)) (d3 : decode b_LW_law (pc + 4) = .ok (.iadd, 1)) (d4 : decode b_LW_law (pc + 5) = .ok (.iaload, 1))
    (kk : W p l e R s m #[Value.ref b] below meth c H locs cells slots Q (F0 m (pc + 6) ls (.int (xs (i + d)) :: rest))) : W p l e R s m #[Value.ref b] below meth c H locs cells slots Q (F0 m pc ls rest) := by
  obtain ⟨hx, hb, -⟩ := id LX.1
  refine lv_aload_n hx hb d0 rfl (lv_at hl k0 h0) ?_
  refine lv_iload hx hb d1 (lv_at hl k4 h4) ?_
  refine lv_iconst (v := nI d) hx hb d2 hv ?_
  refine lk_iaddN hx hb d3 ?_
  exact lk_sld LX J hi d4 kk

theorem lk_turn_step (hl0 : l.stackTraces = false) (LX : lk_LX p s m meth c b L xs D τ A) (J : lk_J D τ A s.heap adC adM C M H locs) (sx : lk_SX 24 C M) (inv : lk_Inv M) (hi : i + 5 ≤ L) (hl : lv_has ls 7 (lk_LV i b adC adM)) (hcs : cells + 1 ≤ 614326 ∧ slots + 6 ≤ 7253127)
    (kk : ∀ (C1 M1 : lk_M) (H1 : Heap) (locs1 : List Loc) (ls1 : Array Slot), lk_J D τ A s.heap adC adM C1 M1 H1 locs1 → lk_SX 24 C1 M1 → lk_Inv M1 → lv_has ls1 7 (lk_LV i b adC adM) → W p l e room_1 s m #[Value.ref b] below meth c H1 locs1 (cells + 1) (slots + 6) Q (F0 m 586 ls1 [])) : W p l e room_1 s m #[Value.ref b] below meth c H locs cells slots Q (F0 m 160 ls []) := by
  have X := LX.1
  have hts := LX.2.1
  have hE := LX.2.2.1
  have hA := LX.2.2.2.1
  have hT : ∀ w ∈ lk_GT, w.before #[Value.ref b] s = true := fun w hw => hts w (lk_tbT w hw)
  obtain ⟨hx, hb, -⟩ := id X
  have hl : lv_has ls 7 [(4, .int (nI i)), (0, .ref b), (1, .ref (adC 0)), (2, .ref (adM 0)), (3, .ref (adC 88))] := hl
  obtain ⟨r, C', pW, pM, hW, hpW, hM, hpM⟩ := lk_op_step (D := D) (τ := τ) (adC := adC) (adM := adM) hl0 sx inv (xs (i + 1))
  refine lv_aload_n hx hb d_LW_law_160 rfl (lv_at hl 2 rfl) ?_
  refine lk_rd (d := 1) LX J hl (k0 := 1) (k4 := 0) rfl rfl (by omega) (by decide) d_LW_law_161 d_LW_law_162 d_LW_law_164 d_LW_law_165 d_LW_law_166 ?_
  refine lv_aload_n hx hb d_LW_law_167 rfl (lv_at hl 4 rfl) ?_
  refine lk_callW (As := [.ref (adC 0), .int (xs (i + 1)), .ref (adC 88)]) (rest := []) X hT hE hA J hW (hts _ lk_cw_step) gm_LW_54 gt_LW_step gn_LW gd_LW_step (by decide) rfl hl.1 (Nat.le_of_ble_eq_true rfl) d_LW_law_168 hcs (fun r1 C1 H locs hp J => ?_)
  obtain ⟨rfl, rfl⟩ := hpW r1 C1 hp
  refine lv_istore hx hb d_LW_law_171 hl (by decide) rfl (fun ls hl => ?_)
  have hl : lv_has ls 7 [(5, .int r1), (4, .int (nI i)), (0, .ref b), (1, .ref (adC 0)), (2, .ref (adM 0)), (3, .ref (adC 88))] := hl
  refine lv_aload_n hx hb d_LW_law_173 rfl (lv_at hl 4 rfl) ?_
  refine lk_rd (d := 1) LX J hl (k0 := 2) (k4 := 1) rfl rfl (by omega) (by decide) d_LW_law_174 d_LW_law_175 d_LW_law_177 d_LW_law_178 d_LW_law_179 ?_
  refine lk_callM (As := [.int (xs (i + 1))]) (rest := []) X hA J hM ⟨gc_MO_step, gm_LW_57, gn_MO, gd_MO_step, by decide, by decide⟩ gi_MO_step gs_MO_step rfl hl.1 (Nat.le_of_ble_eq_true rfl) d_LW_law_180 hcs (fun a1 M1 H locs hp J => ?_)
  obtain ⟨q1, q2, q3, q4⟩ := hpM a1 M1 hp
  refine lv_istore hx hb d_LW_law_183 hl (by decide) rfl (fun ls hl => ?_)
  have hl : lv_has ls 7 [(6, .int a1), (5, .int r1), (4, .int (nI i)), (0, .ref b), (1, .ref (adC 0)), (2, .ref (adM 0)), (3, .ref (adC 88))] := hl
  refine lv_aload_n hx hb d_LW_law_185 rfl (lv_at hl 5 rfl) ?_
  refine lk_callM (As := []) (rest := []) X hA J (c_MO_thrown l D τ adM M1) ⟨gc_MO_thrown, gm_LW_50, gn_MO, gd_MO_thrown, by decide, by decide⟩ gi_MO_thrown gs_MO_thrown rfl hl.1 (Nat.le_of_ble_eq_true rfl) d_LW_law_186 hcs (fun a2 M2 H locs hp J => ?_)
  rw [hp.2] at J
  rw [hp.1, q1]
  refine lv_iload hx hb d_LW_law_189 (lv_at hl 1 rfl) ?_
  refine lv_icmp_eq (tgt := 196) hx hb d_LW_law_191 (by decide) (fun _ => ?_) (fun z => absurd rfl z)
  refine lv_iload hx hb d_LW_law_196 (lv_at hl 1 rfl) ?_
  have fin : W p l e room_1 s m #[Value.ref b] below meth c H locs (cells + 1) (slots + 6) Q (F0 m 213 ls []) := by
    refine lv_goto (tgt := 586) hx hb d_LW_law_213 (by decide) ?_
    exact kk _ _ H locs ls J q3 q4 (lk_drop (lk_drop hl))
  refine lv_if_ne (tgt := 213) hx hb d_LW_law_198 (by decide) (fun _ => fin) (fun z => ?_)
  refine lv_aload_n hx hb d_LW_law_201 rfl (lv_at hl 6 rfl) ?_
  refine lv_iconst (v := 0) hx hb d_LW_law_202 (by decide) ?_
  refine lk_lald X J d_LW_law_203 ?_
  refine lv_iload hx hb d_LW_law_204 (lv_at hl 0 rfl) ?_
  refine lv_i2l hx hb d_LW_law_206 rfl ?_
  refine W.lcmp hx hb d_LW_law_207 ?_
  rw [lk_cmp0 (by rw [q2 z])]
  exact lv_if_eq (tgt := 213) hx hb d_LW_law_208 (by decide) (fun _ => fin) (fun z => absurd rfl z)
theorem lk_turn_answer (hl0 : l.stackTraces = false) (LX : lk_LX p s m meth c b L xs D τ A) (J : lk_J D τ A s.heap adC adM C M H locs) (sx : lk_SX 24 C M) (inv : lk_Inv M) (hi : i + 5 ≤ L) (hl : lv_has ls 7 (lk_LV i b adC adM)) (hcs : cells + 1 ≤ 614326 ∧ slots + 6 ≤ 7253127)
    (kk : ∀ (C1 M1 : lk_M) (H1 : Heap) (locs1 : List Loc) (ls1 : Array Slot), lk_J D τ A s.heap adC adM C1 M1 H1 locs1 → lk_SX 24 C1 M1 → lk_Inv M1 → lv_has ls1 7 (lk_LV i b adC adM) → W p l e room_1 s m #[Value.ref b] below meth c H1 locs1 (cells + 1) (slots + 6) Q (F0 m 586 ls1 [])) : W p l e room_1 s m #[Value.ref b] below meth c H locs cells slots Q (F0 m 216 ls []) := by
  have X := LX.1
  have hts := LX.2.1
  have hE := LX.2.2.1
  have hA := LX.2.2.2.1
  have hT : ∀ w ∈ lk_GT, w.before #[Value.ref b] s = true := fun w hw => hts w (lk_tbT w hw)
  obtain ⟨hx, hb, -⟩ := id X
  have hl : lv_has ls 7 [(4, .int (nI i)), (0, .ref b), (1, .ref (adC 0)), (2, .ref (adM 0)), (3, .ref (adC 88))] := hl
  obtain ⟨r, C', pW, pM, hW, hpW, hM, hpM⟩ := lk_op_answer (D := D) (τ := τ) (adC := adC) (adM := adM) hl0 sx inv (xs (i + 1))
  refine lv_aload_n hx hb d_LW_law_216 rfl (lv_at hl 2 rfl) ?_
  refine lk_rd (d := 1) LX J hl (k0 := 1) (k4 := 0) rfl rfl (by omega) (by decide) d_LW_law_217 d_LW_law_218 d_LW_law_220 d_LW_law_221 d_LW_law_222 ?_
  refine lv_aload_n hx hb d_LW_law_223 rfl (lv_at hl 4 rfl) ?_
  refine lk_callW (As := [.ref (adC 0), .int (xs (i + 1)), .ref (adC 88)]) (rest := []) X hT hE hA J hW (hts _ lk_cw_answer) gm_LW_58 gt_LW_answer gn_LW gd_LW_answer (by decide) rfl hl.1 (Nat.le_of_ble_eq_true rfl) d_LW_law_224 hcs (fun r1 C1 H locs hp J => ?_)
  obtain ⟨rfl, rfl⟩ := hpW r1 C1 hp
  refine lv_istore hx hb d_LW_law_227 hl (by decide) rfl (fun ls hl => ?_)
  have hl : lv_has ls 7 [(5, .int r1), (4, .int (nI i)), (0, .ref b), (1, .ref (adC 0)), (2, .ref (adM 0)), (3, .ref (adC 88))] := hl
  refine lv_aload_n hx hb d_LW_law_229 rfl (lv_at hl 4 rfl) ?_
  refine lk_rd (d := 1) LX J hl (k0 := 2) (k4 := 1) rfl rfl (by omega) (by decide) d_LW_law_230 d_LW_law_231 d_LW_law_233 d_LW_law_234 d_LW_law_235 ?_
  refine lk_callM (As := [.int (xs (i + 1))]) (rest := []) X hA J hM ⟨gc_MO_answer, gm_LW_60, gn_MO, gd_MO_answer, by decide, by decide⟩ gi_MO_answer gs_MO_answer rfl hl.1 (Nat.le_of_ble_eq_true rfl) d_LW_law_236 hcs (fun a1 M1 H locs hp J => ?_)
  obtain ⟨q1, q2, q3, q4⟩ := hpM a1 M1 hp
  refine lv_istore hx hb d_LW_law_239 hl (by decide) rfl (fun ls hl => ?_)
  have hl : lv_has ls 7 [(6, .int a1), (5, .int r1), (4, .int (nI i)), (0, .ref b), (1, .ref (adC 0)), (2, .ref (adM 0)), (3, .ref (adC 88))] := hl
  refine lv_aload_n hx hb d_LW_law_241 rfl (lv_at hl 5 rfl) ?_
  refine lk_callM (As := []) (rest := []) X hA J (c_MO_thrown l D τ adM M1) ⟨gc_MO_thrown, gm_LW_50, gn_MO, gd_MO_thrown, by decide, by decide⟩ gi_MO_thrown gs_MO_thrown rfl hl.1 (Nat.le_of_ble_eq_true rfl) d_LW_law_242 hcs (fun a2 M2 H locs hp J => ?_)
  rw [hp.2] at J
  rw [hp.1, q1]
  refine lv_iload hx hb d_LW_law_245 (lv_at hl 1 rfl) ?_
  refine lv_icmp_eq (tgt := 252) hx hb d_LW_law_247 (by decide) (fun _ => ?_) (fun z => absurd rfl z)
  refine lv_iload hx hb d_LW_law_252 (lv_at hl 1 rfl) ?_
  have fin : W p l e room_1 s m #[Value.ref b] below meth c H locs (cells + 1) (slots + 6) Q (F0 m 269 ls []) := by
    refine lv_goto (tgt := 586) hx hb d_LW_law_269 (by decide) ?_
    exact kk _ _ H locs ls J q3 q4 (lk_drop (lk_drop hl))
  refine lv_if_ne (tgt := 269) hx hb d_LW_law_254 (by decide) (fun _ => fin) (fun z => ?_)
  refine lv_aload_n hx hb d_LW_law_257 rfl (lv_at hl 6 rfl) ?_
  refine lv_iconst (v := 0) hx hb d_LW_law_258 (by decide) ?_
  refine lk_lald X J d_LW_law_259 ?_
  refine lv_iload hx hb d_LW_law_260 (lv_at hl 0 rfl) ?_
  refine lv_i2l hx hb d_LW_law_262 rfl ?_
  refine W.lcmp hx hb d_LW_law_263 ?_
  rw [lk_cmp0 (by rw [q2 z])]
  exact lv_if_eq (tgt := 269) hx hb d_LW_law_264 (by decide) (fun _ => fin) (fun z => absurd rfl z)
theorem lk_turn_look (hl0 : l.stackTraces = false) (LX : lk_LX p s m meth c b L xs D τ A) (J : lk_J D τ A s.heap adC adM C M H locs) (sx : lk_SX 24 C M) (inv : lk_Inv M) (hi : i + 5 ≤ L) (hl : lv_has ls 7 (lk_LV i b adC adM)) (hcs : cells + 1 ≤ 614326 ∧ slots + 6 ≤ 7253127)
    (kk : ∀ (C1 M1 : lk_M) (H1 : Heap) (locs1 : List Loc) (ls1 : Array Slot), lk_J D τ A s.heap adC adM C1 M1 H1 locs1 → lk_SX 24 C1 M1 → lk_Inv M1 → lv_has ls1 7 (lk_LV i b adC adM) → W p l e room_1 s m #[Value.ref b] below meth c H1 locs1 (cells + 1) (slots + 6) Q (F0 m 586 ls1 [])) : W p l e room_1 s m #[Value.ref b] below meth c H locs cells slots Q (F0 m 272 ls []) := by
  have X := LX.1
  have hts := LX.2.1
  have hE := LX.2.2.1
  have hA := LX.2.2.2.1
  have hT : ∀ w ∈ lk_GT, w.before #[Value.ref b] s = true := fun w hw => hts w (lk_tbT w hw)
  obtain ⟨hx, hb, -⟩ := id X
  have hl : lv_has ls 7 [(4, .int (nI i)), (0, .ref b), (1, .ref (adC 0)), (2, .ref (adM 0)), (3, .ref (adC 88))] := hl
  obtain ⟨r, C', pW, pM, hW, hpW, hM, hpM⟩ := lk_op_look (D := D) (τ := τ) (adC := adC) (adM := adM) hl0 sx inv (xs (i + 1)) (xs (i + 2))
  refine lv_aload_n hx hb d_LW_law_272 rfl (lv_at hl 2 rfl) ?_
  refine lk_rd (d := 1) LX J hl (k0 := 1) (k4 := 0) rfl rfl (by omega) (by decide) d_LW_law_273 d_LW_law_274 d_LW_law_276 d_LW_law_277 d_LW_law_278 ?_
  refine lk_rd (d := 2) LX J hl (k0 := 1) (k4 := 0) rfl rfl (by omega) (by decide) d_LW_law_279 d_LW_law_280 d_LW_law_282 d_LW_law_283 d_LW_law_284 ?_
  refine lv_aload_n hx hb d_LW_law_285 rfl (lv_at hl 4 rfl) ?_
  refine lk_callW (As := [.ref (adC 0), .int (xs (i + 1)), .int (xs (i + 2)), .ref (adC 88)]) (rest := []) X hT hE hA J hW (hts _ lk_cw_look) gm_LW_61 gt_LW_look gn_LW gd_LW_look (by decide) rfl hl.1 (Nat.le_of_ble_eq_true rfl) d_LW_law_286 hcs (fun r1 C1 H locs hp J => ?_)
  obtain ⟨rfl, rfl⟩ := hpW r1 C1 hp
  refine lv_istore hx hb d_LW_law_289 hl (by decide) rfl (fun ls hl => ?_)
  have hl : lv_has ls 7 [(5, .int r1), (4, .int (nI i)), (0, .ref b), (1, .ref (adC 0)), (2, .ref (adM 0)), (3, .ref (adC 88))] := hl
  refine lv_aload_n hx hb d_LW_law_291 rfl (lv_at hl 4 rfl) ?_
  refine lk_rd (d := 1) LX J hl (k0 := 2) (k4 := 1) rfl rfl (by omega) (by decide) d_LW_law_292 d_LW_law_293 d_LW_law_295 d_LW_law_296 d_LW_law_297 ?_
  refine lk_rd (d := 2) LX J hl (k0 := 2) (k4 := 1) rfl rfl (by omega) (by decide) d_LW_law_298 d_LW_law_299 d_LW_law_301 d_LW_law_302 d_LW_law_303 ?_
  refine lk_callM (As := [.int (xs (i + 1)), .int (xs (i + 2))]) (rest := []) X hA J hM ⟨gc_MO_look, gm_LW_64, gn_MO, gd_MO_look, by decide, by decide⟩ gi_MO_look gs_MO_look rfl hl.1 (Nat.le_of_ble_eq_true rfl) d_LW_law_304 hcs (fun a1 M1 H locs hp J => ?_)
  obtain ⟨q1, q2, q3, q4⟩ := hpM a1 M1 hp
  refine lv_istore hx hb d_LW_law_307 hl (by decide) rfl (fun ls hl => ?_)
  have hl : lv_has ls 7 [(6, .int a1), (5, .int r1), (4, .int (nI i)), (0, .ref b), (1, .ref (adC 0)), (2, .ref (adM 0)), (3, .ref (adC 88))] := hl
  refine lv_aload_n hx hb d_LW_law_309 rfl (lv_at hl 5 rfl) ?_
  refine lk_callM (As := []) (rest := []) X hA J (c_MO_thrown l D τ adM M1) ⟨gc_MO_thrown, gm_LW_50, gn_MO, gd_MO_thrown, by decide, by decide⟩ gi_MO_thrown gs_MO_thrown rfl hl.1 (Nat.le_of_ble_eq_true rfl) d_LW_law_310 hcs (fun a2 M2 H locs hp J => ?_)
  rw [hp.2] at J
  rw [hp.1, q1]
  refine lv_iload hx hb d_LW_law_313 (lv_at hl 1 rfl) ?_
  refine lv_icmp_eq (tgt := 320) hx hb d_LW_law_315 (by decide) (fun _ => ?_) (fun z => absurd rfl z)
  refine lv_iload hx hb d_LW_law_320 (lv_at hl 1 rfl) ?_
  have fin : W p l e room_1 s m #[Value.ref b] below meth c H locs (cells + 1) (slots + 6) Q (F0 m 337 ls []) := by
    refine lv_goto (tgt := 586) hx hb d_LW_law_337 (by decide) ?_
    exact kk _ _ H locs ls J q3 q4 (lk_drop (lk_drop hl))
  refine lv_if_ne (tgt := 337) hx hb d_LW_law_322 (by decide) (fun _ => fin) (fun z => ?_)
  refine lv_aload_n hx hb d_LW_law_325 rfl (lv_at hl 6 rfl) ?_
  refine lv_iconst (v := 0) hx hb d_LW_law_326 (by decide) ?_
  refine lk_lald X J d_LW_law_327 ?_
  refine lv_iload hx hb d_LW_law_328 (lv_at hl 0 rfl) ?_
  refine lv_i2l hx hb d_LW_law_330 rfl ?_
  refine W.lcmp hx hb d_LW_law_331 ?_
  rw [lk_cmp0 (by rw [q2 z])]
  exact lv_if_eq (tgt := 337) hx hb d_LW_law_332 (by decide) (fun _ => fin) (fun z => absurd rfl z)
theorem lk_turn_page (hl0 : l.stackTraces = false) (LX : lk_LX p s m meth c b L xs D τ A) (J : lk_J D τ A s.heap adC adM C M H locs) (sx : lk_SX 24 C M) (inv : lk_Inv M) (hi : i + 5 ≤ L) (hl : lv_has ls 7 (lk_LV i b adC adM)) (hcs : cells + 1 ≤ 614326 ∧ slots + 6 ≤ 7253127)
    (kk : ∀ (C1 M1 : lk_M) (H1 : Heap) (locs1 : List Loc) (ls1 : Array Slot), lk_J D τ A s.heap adC adM C1 M1 H1 locs1 → lk_SX 24 C1 M1 → lk_Inv M1 → lv_has ls1 7 (lk_LV i b adC adM) → W p l e room_1 s m #[Value.ref b] below meth c H1 locs1 (cells + 1) (slots + 6) Q (F0 m 586 ls1 [])) : W p l e room_1 s m #[Value.ref b] below meth c H locs cells slots Q (F0 m 340 ls []) := by
  have X := LX.1
  have hts := LX.2.1
  have hE := LX.2.2.1
  have hA := LX.2.2.2.1
  have hT : ∀ w ∈ lk_GT, w.before #[Value.ref b] s = true := fun w hw => hts w (lk_tbT w hw)
  obtain ⟨hx, hb, -⟩ := id X
  have hl : lv_has ls 7 [(4, .int (nI i)), (0, .ref b), (1, .ref (adC 0)), (2, .ref (adM 0)), (3, .ref (adC 88))] := hl
  obtain ⟨r, C', pW, pM, hW, hpW, hM, hpM⟩ := lk_op_page (D := D) (τ := τ) (adC := adC) (adM := adM) hl0 sx inv (xs (i + 1)) (xs (i + 2))
  refine lv_aload_n hx hb d_LW_law_340 rfl (lv_at hl 2 rfl) ?_
  refine lk_rd (d := 1) LX J hl (k0 := 1) (k4 := 0) rfl rfl (by omega) (by decide) d_LW_law_341 d_LW_law_342 d_LW_law_344 d_LW_law_345 d_LW_law_346 ?_
  refine lk_rd (d := 2) LX J hl (k0 := 1) (k4 := 0) rfl rfl (by omega) (by decide) d_LW_law_347 d_LW_law_348 d_LW_law_350 d_LW_law_351 d_LW_law_352 ?_
  refine lv_aload_n hx hb d_LW_law_353 rfl (lv_at hl 4 rfl) ?_
  refine lk_callW (As := [.ref (adC 0), .int (xs (i + 1)), .int (xs (i + 2)), .ref (adC 88)]) (rest := []) X hT hE hA J hW (hts _ lk_cw_page) gm_LW_65 gt_LW_page gn_LW gd_LW_page (by decide) rfl hl.1 (Nat.le_of_ble_eq_true rfl) d_LW_law_354 hcs (fun r1 C1 H locs hp J => ?_)
  obtain ⟨rfl, rfl⟩ := hpW r1 C1 hp
  refine lv_istore hx hb d_LW_law_357 hl (by decide) rfl (fun ls hl => ?_)
  have hl : lv_has ls 7 [(5, .int r1), (4, .int (nI i)), (0, .ref b), (1, .ref (adC 0)), (2, .ref (adM 0)), (3, .ref (adC 88))] := hl
  refine lv_aload_n hx hb d_LW_law_359 rfl (lv_at hl 4 rfl) ?_
  refine lk_rd (d := 1) LX J hl (k0 := 2) (k4 := 1) rfl rfl (by omega) (by decide) d_LW_law_360 d_LW_law_361 d_LW_law_363 d_LW_law_364 d_LW_law_365 ?_
  refine lk_rd (d := 2) LX J hl (k0 := 2) (k4 := 1) rfl rfl (by omega) (by decide) d_LW_law_366 d_LW_law_367 d_LW_law_369 d_LW_law_370 d_LW_law_371 ?_
  refine lk_callM (As := [.int (xs (i + 1)), .int (xs (i + 2))]) (rest := []) X hA J hM ⟨gc_MO_page, gm_LW_67, gn_MO, gd_MO_page, by decide, by decide⟩ gi_MO_page gs_MO_page rfl hl.1 (Nat.le_of_ble_eq_true rfl) d_LW_law_372 hcs (fun a1 M1 H locs hp J => ?_)
  obtain ⟨q1, q2, q3, q4⟩ := hpM a1 M1 hp
  refine lv_istore hx hb d_LW_law_375 hl (by decide) rfl (fun ls hl => ?_)
  have hl : lv_has ls 7 [(6, .int a1), (5, .int r1), (4, .int (nI i)), (0, .ref b), (1, .ref (adC 0)), (2, .ref (adM 0)), (3, .ref (adC 88))] := hl
  refine lv_aload_n hx hb d_LW_law_377 rfl (lv_at hl 5 rfl) ?_
  refine lk_callM (As := []) (rest := []) X hA J (c_MO_thrown l D τ adM M1) ⟨gc_MO_thrown, gm_LW_50, gn_MO, gd_MO_thrown, by decide, by decide⟩ gi_MO_thrown gs_MO_thrown rfl hl.1 (Nat.le_of_ble_eq_true rfl) d_LW_law_378 hcs (fun a2 M2 H locs hp J => ?_)
  rw [hp.2] at J
  rw [hp.1, q1]
  refine lv_iload hx hb d_LW_law_381 (lv_at hl 1 rfl) ?_
  refine lv_icmp_eq (tgt := 388) hx hb d_LW_law_383 (by decide) (fun _ => ?_) (fun z => absurd rfl z)
  refine lv_iload hx hb d_LW_law_388 (lv_at hl 1 rfl) ?_
  have fin : W p l e room_1 s m #[Value.ref b] below meth c H locs (cells + 1) (slots + 6) Q (F0 m 405 ls []) := by
    refine lv_goto (tgt := 586) hx hb d_LW_law_405 (by decide) ?_
    exact kk _ _ H locs ls J q3 q4 (lk_drop (lk_drop hl))
  refine lv_if_ne (tgt := 405) hx hb d_LW_law_390 (by decide) (fun _ => fin) (fun z => ?_)
  refine lv_aload_n hx hb d_LW_law_393 rfl (lv_at hl 6 rfl) ?_
  refine lv_iconst (v := 0) hx hb d_LW_law_394 (by decide) ?_
  refine lk_lald X J d_LW_law_395 ?_
  refine lv_iload hx hb d_LW_law_396 (lv_at hl 0 rfl) ?_
  refine lv_i2l hx hb d_LW_law_398 rfl ?_
  refine W.lcmp hx hb d_LW_law_399 ?_
  rw [lk_cmp0 (by rw [q2 z])]
  exact lv_if_eq (tgt := 405) hx hb d_LW_law_400 (by decide) (fun _ => fin) (fun z => absurd rfl z)
theorem lk_turn_under (hl0 : l.stackTraces = false) (LX : lk_LX p s m meth c b L xs D τ A) (J : lk_J D τ A s.heap adC adM C M H locs) (sx : lk_SX 24 C M) (inv : lk_Inv M) (hi : i + 5 ≤ L) (hl : lv_has ls 7 (lk_LV i b adC adM)) (hcs : cells + 1 ≤ 614326 ∧ slots + 6 ≤ 7253127)
    (kk : ∀ (C1 M1 : lk_M) (H1 : Heap) (locs1 : List Loc) (ls1 : Array Slot), lk_J D τ A s.heap adC adM C1 M1 H1 locs1 → lk_SX 24 C1 M1 → lk_Inv M1 → lv_has ls1 7 (lk_LV i b adC adM) → W p l e room_1 s m #[Value.ref b] below meth c H1 locs1 (cells + 1) (slots + 6) Q (F0 m 586 ls1 [])) : W p l e room_1 s m #[Value.ref b] below meth c H locs cells slots Q (F0 m 530 ls []) := by
  have X := LX.1
  have hts := LX.2.1
  have hE := LX.2.2.1
  have hA := LX.2.2.2.1
  have hT : ∀ w ∈ lk_GT, w.before #[Value.ref b] s = true := fun w hw => hts w (lk_tbT w hw)
  obtain ⟨hx, hb, -⟩ := id X
  have hl : lv_has ls 7 [(4, .int (nI i)), (0, .ref b), (1, .ref (adC 0)), (2, .ref (adM 0)), (3, .ref (adC 88))] := hl
  obtain ⟨r, C', pW, pM, hW, hpW, hM, hpM⟩ := lk_op_under (D := D) (τ := τ) (adC := adC) (adM := adM) hl0 sx inv (xs (i + 1))
  refine lv_aload_n hx hb d_LW_law_530 rfl (lv_at hl 2 rfl) ?_
  refine lk_rd (d := 1) LX J hl (k0 := 1) (k4 := 0) rfl rfl (by omega) (by decide) d_LW_law_531 d_LW_law_532 d_LW_law_534 d_LW_law_535 d_LW_law_536 ?_
  refine lv_aload_n hx hb d_LW_law_537 rfl (lv_at hl 4 rfl) ?_
  refine lk_callW (As := [.ref (adC 0), .int (xs (i + 1)), .ref (adC 88)]) (rest := []) X hT hE hA J hW (hts _ lk_cw_under) gm_LW_80 gt_LW_under gn_LW gd_LW_under (by decide) rfl hl.1 (Nat.le_of_ble_eq_true rfl) d_LW_law_538 hcs (fun r1 C1 H locs hp J => ?_)
  obtain ⟨rfl, rfl⟩ := hpW r1 C1 hp
  refine lv_istore hx hb d_LW_law_541 hl (by decide) rfl (fun ls hl => ?_)
  have hl : lv_has ls 7 [(5, .int r1), (4, .int (nI i)), (0, .ref b), (1, .ref (adC 0)), (2, .ref (adM 0)), (3, .ref (adC 88))] := hl
  refine lv_aload_n hx hb d_LW_law_543 rfl (lv_at hl 4 rfl) ?_
  refine lk_rd (d := 1) LX J hl (k0 := 2) (k4 := 1) rfl rfl (by omega) (by decide) d_LW_law_544 d_LW_law_545 d_LW_law_547 d_LW_law_548 d_LW_law_549 ?_
  refine lk_callM (As := [.int (xs (i + 1))]) (rest := []) X hA J hM ⟨gc_MO_under, gm_LW_82, gn_MO, gd_MO_under, by decide, by decide⟩ gi_MO_under gs_MO_under rfl hl.1 (Nat.le_of_ble_eq_true rfl) d_LW_law_550 hcs (fun a1 M1 H locs hp J => ?_)
  obtain ⟨q1, q2, q3, q4⟩ := hpM a1 M1 hp
  refine lv_istore hx hb d_LW_law_553 hl (by decide) rfl (fun ls hl => ?_)
  have hl : lv_has ls 7 [(6, .int a1), (5, .int r1), (4, .int (nI i)), (0, .ref b), (1, .ref (adC 0)), (2, .ref (adM 0)), (3, .ref (adC 88))] := hl
  refine lv_aload_n hx hb d_LW_law_555 rfl (lv_at hl 5 rfl) ?_
  refine lk_callM (As := []) (rest := []) X hA J (c_MO_thrown l D τ adM M1) ⟨gc_MO_thrown, gm_LW_50, gn_MO, gd_MO_thrown, by decide, by decide⟩ gi_MO_thrown gs_MO_thrown rfl hl.1 (Nat.le_of_ble_eq_true rfl) d_LW_law_556 hcs (fun a2 M2 H locs hp J => ?_)
  rw [hp.2] at J
  rw [hp.1, q1]
  refine lv_iload hx hb d_LW_law_559 (lv_at hl 1 rfl) ?_
  refine lv_icmp_eq (tgt := 566) hx hb d_LW_law_561 (by decide) (fun _ => ?_) (fun z => absurd rfl z)
  refine lv_iload hx hb d_LW_law_566 (lv_at hl 1 rfl) ?_
  have fin : W p l e room_1 s m #[Value.ref b] below meth c H locs (cells + 1) (slots + 6) Q (F0 m 583 ls []) := by
    refine lv_goto (tgt := 586) hx hb d_LW_law_583 (by decide) ?_
    exact kk _ _ H locs ls J q3 q4 (lk_drop (lk_drop hl))
  refine lv_if_ne (tgt := 583) hx hb d_LW_law_568 (by decide) (fun _ => fin) (fun z => ?_)
  refine lv_aload_n hx hb d_LW_law_571 rfl (lv_at hl 6 rfl) ?_
  refine lv_iconst (v := 0) hx hb d_LW_law_572 (by decide) ?_
  refine lk_lald X J d_LW_law_573 ?_
  refine lv_iload hx hb d_LW_law_574 (lv_at hl 0 rfl) ?_
  refine lv_i2l hx hb d_LW_law_576 rfl ?_
  refine W.lcmp hx hb d_LW_law_577 ?_
  rw [lk_cmp0 (by rw [q2 z])]
  exact lv_if_eq (tgt := 583) hx hb d_LW_law_578 (by decide) (fun _ => fin) (fun z => absurd rfl z)
theorem lk_turn_begin (hl0 : l.stackTraces = false) (LX : lk_LX p s m meth c b L xs D τ A) (J : lk_J D τ A s.heap adC adM C M H locs) (sx : lk_SX 24 C M) (inv : lk_Inv M) (hi : i + 5 ≤ L) (hl : lv_has ls 7 (lk_LV i b adC adM)) (hcs : cells + 1 ≤ 614326 ∧ slots + 6 ≤ 7253127)
    (kk : ∀ (C1 M1 : lk_M) (H1 : Heap) (locs1 : List Loc) (ls1 : Array Slot), lk_J D τ A s.heap adC adM C1 M1 H1 locs1 → lk_SX 24 C1 M1 → lk_Inv M1 → lv_has ls1 7 (lk_LV i b adC adM) → W p l e room_1 s m #[Value.ref b] below meth c H1 locs1 (cells + 1) (slots + 6) Q (F0 m 586 ls1 [])) : W p l e room_1 s m #[Value.ref b] below meth c H locs cells slots Q (F0 m 88 ls []) := by
  have X := LX.1
  have hts := LX.2.1
  have hE := LX.2.2.1
  have hA := LX.2.2.2.1
  have hT : ∀ w ∈ lk_GT, w.before #[Value.ref b] s = true := fun w hw => hts w (lk_tbT w hw)
  obtain ⟨hx, hb, -⟩ := id X
  have hl : lv_has ls 7 [(4, .int (nI i)), (0, .ref b), (1, .ref (adC 0)), (2, .ref (adM 0)), (3, .ref (adC 88))] := hl
  obtain ⟨r, C', pW, pM, hW, hpW, hM, hpM⟩ := lk_op_begin (D := D) (τ := τ) (adC := adC) (adM := adM) hl0 sx inv (xs (i + 1)) (xs (i + 2)) (xs (i + 3)) (xs (i + 4))
  refine lv_aload_n hx hb d_LW_law_88 rfl (lv_at hl 2 rfl) ?_
  refine lk_rd (d := 1) LX J hl (k0 := 1) (k4 := 0) rfl rfl (by omega) (by decide) d_LW_law_89 d_LW_law_90 d_LW_law_92 d_LW_law_93 d_LW_law_94 ?_
  refine lk_rd (d := 2) LX J hl (k0 := 1) (k4 := 0) rfl rfl (by omega) (by decide) d_LW_law_95 d_LW_law_96 d_LW_law_98 d_LW_law_99 d_LW_law_100 ?_
  refine lk_rd (d := 3) LX J hl (k0 := 1) (k4 := 0) rfl rfl (by omega) (by decide) d_LW_law_101 d_LW_law_102 d_LW_law_104 d_LW_law_105 d_LW_law_106 ?_
  refine lk_rd (d := 4) LX J hl (k0 := 1) (k4 := 0) rfl rfl (by omega) (by decide) d_LW_law_107 d_LW_law_108 d_LW_law_110 d_LW_law_111 d_LW_law_112 ?_
  refine lk_callW (As := [.ref (adC 0), .int (xs (i + 1)), .int (xs (i + 2)), .int (xs (i + 3)), .int (xs (i + 4))]) (rest := []) X hT hE hA J hW (hts _ lk_cw_begin) gm_LW_44 gt_LW_begin gn_LW gd_LW_begin (by decide) rfl hl.1 (Nat.le_of_ble_eq_true rfl) d_LW_law_113 hcs (fun r1 C1 H locs hp J => ?_)
  obtain ⟨rfl, rfl⟩ := hpW r1 C1 hp
  refine lv_istore hx hb d_LW_law_116 hl (by decide) rfl (fun ls hl => ?_)
  have hl : lv_has ls 7 [(5, .int r1), (4, .int (nI i)), (0, .ref b), (1, .ref (adC 0)), (2, .ref (adM 0)), (3, .ref (adC 88))] := hl
  refine lv_aload_n hx hb d_LW_law_118 rfl (lv_at hl 4 rfl) ?_
  refine lk_rd (d := 1) LX J hl (k0 := 2) (k4 := 1) rfl rfl (by omega) (by decide) d_LW_law_119 d_LW_law_120 d_LW_law_122 d_LW_law_123 d_LW_law_124 ?_
  refine lk_rd (d := 2) LX J hl (k0 := 2) (k4 := 1) rfl rfl (by omega) (by decide) d_LW_law_125 d_LW_law_126 d_LW_law_128 d_LW_law_129 d_LW_law_130 ?_
  refine lk_rd (d := 3) LX J hl (k0 := 2) (k4 := 1) rfl rfl (by omega) (by decide) d_LW_law_131 d_LW_law_132 d_LW_law_134 d_LW_law_135 d_LW_law_136 ?_
  refine lk_rd (d := 4) LX J hl (k0 := 2) (k4 := 1) rfl rfl (by omega) (by decide) d_LW_law_137 d_LW_law_138 d_LW_law_140 d_LW_law_141 d_LW_law_142 ?_
  refine lk_callMv (As := [.int (xs (i + 1)), .int (xs (i + 2)), .int (xs (i + 3)), .int (xs (i + 4))]) (rest := []) X hA J hM ⟨gc_MO_begin, gm_LW_49, gn_MO, gd_MO_begin, by decide, by decide⟩ gi_MO_begin gs_MO_begin rfl hl.1 (Nat.le_of_ble_eq_true rfl) d_LW_law_143 hcs (fun M1 H locs hp J => ?_)
  obtain ⟨q1, q3, q4⟩ := hpM M1 hp
  refine lv_aload_n hx hb d_LW_law_146 rfl (lv_at hl 4 rfl) ?_
  refine lk_callM (As := []) (rest := []) X hA J (c_MO_thrown l D τ adM M1) ⟨gc_MO_thrown, gm_LW_50, gn_MO, gd_MO_thrown, by decide, by decide⟩ gi_MO_thrown gs_MO_thrown rfl hl.1 (Nat.le_of_ble_eq_true rfl) d_LW_law_147 hcs (fun a2 M2 H locs hp J => ?_)
  rw [hp.2] at J
  rw [hp.1, q1]
  refine lv_iload hx hb d_LW_law_150 (lv_at hl 0 rfl) ?_
  refine lv_icmp_eq (tgt := 157) hx hb d_LW_law_152 (by decide) (fun _ => ?_) (fun z => absurd rfl z)
  refine lv_goto (tgt := 586) hx hb d_LW_law_157 (by decide) ?_
  exact kk _ _ H locs ls J q3 q4 (lk_drop hl)
theorem lk_bool {lv : List (Nat × Value)} {k0 k4 : Nat} (LX : lk_LX p s m meth c b L xs D τ A) (J : lk_J D τ A s.heap adC adM C M H locs) (hl : lv_has ls 7 lv) (h0 : lv[k0]? = some (0, .ref b)) (h4 : lv[k4]? = some (4, .int (nI i))) (hi : i + 3 < L) (d0 : decode b_LW_law pc = .ok (.aload_n 0, 1)) (d1 : decode b_LW_law (pc + 1) = .ok (.iload 4, 2)) (d2 : decode b_LW_law (pc + 3) = .ok (.iconst 3, 1)) (d3 : decode b_LW_law (pc + 4) = .ok (.iadd, 1)) (d4 : decode b_LW_law (pc + 5) = .ok (.iaload, 1)) (d6 : decode b_LW_law (pc + 6) = .ok (.ifCond .eq 7, 3)) (d9 : decode b_LW_law (pc + 9) = .ok (.iconst 1, 1)) (d10 : decode b_LW_law (pc + 10) = .ok (.goto 4, 3)) (d13 : decode b_LW_law (pc + 13) = .ok (.iconst 0, 1))
    (kk : W p l e R s m #[Value.ref b] below meth c H locs cells slots Q (F0 m (pc + 14) ls (.int (if xs (i + 3) = 0 then 0 else 1) :: rest))) : W p l e R s m #[Value.ref b] below meth c H locs cells slots Q (F0 m pc ls rest) := by
  obtain ⟨hx, hb, -⟩ := id LX.1
  refine lk_rd (d := 3) LX J hl h0 h4 hi (by decide) d0 d1 d2 d3 d4 ?_
  refine lv_if_eq (tgt := pc + 13) hx hb d6 (by omega) (fun z => ?_) (fun z => ?_)
  · rw [if_pos z] at kk
    exact lv_iconst (v := 0) hx hb d13 (by decide) kk
  · rw [if_neg z] at kk
    refine lv_iconst (v := 1) hx hb d9 (by decide) ?_
    exact lv_goto (tgt := pc + 14) hx hb d10 (by omega) kk
theorem lk_turn_entry (hl0 : l.stackTraces = false) (LX : lk_LX p s m meth c b L xs D τ A) (J : lk_J D τ A s.heap adC adM C M H locs) (sx : lk_SX 24 C M) (inv : lk_Inv M) (hi : i + 5 ≤ L) (hl : lv_has ls 7 (lk_LV i b adC adM)) (hcs : cells + 1 ≤ 614326 ∧ slots + 6 ≤ 7253127)
    (kk : ∀ (C1 M1 : lk_M) (H1 : Heap) (locs1 : List Loc) (ls1 : Array Slot), lk_J D τ A s.heap adC adM C1 M1 H1 locs1 → lk_SX 24 C1 M1 → lk_Inv M1 → lv_has ls1 7 (lk_LV i b adC adM) → W p l e room_1 s m #[Value.ref b] below meth c H1 locs1 (cells + 1) (slots + 6) Q (F0 m 586 ls1 [])) : W p l e room_1 s m #[Value.ref b] below meth c H locs cells slots Q (F0 m 408 ls []) := by
  have X := LX.1
  have hts := LX.2.1
  have hE := LX.2.2.1
  have hA := LX.2.2.2.1
  have hT : ∀ w ∈ lk_GT, w.before #[Value.ref b] s = true := fun w hw => hts w (lk_tbT w hw)
  obtain ⟨hx, hb, -⟩ := id X
  have hl : lv_has ls 7 [(4, .int (nI i)), (0, .ref b), (1, .ref (adC 0)), (2, .ref (adM 0)), (3, .ref (adC 88))] := hl
  obtain ⟨r, C', pW, pM, hW, hpW, hM, hpM⟩ := lk_op_entry (D := D) (τ := τ) (adC := adC) (adM := adM) hl0 sx inv (xs (i + 1)) (xs (i + 2)) (if xs (i + 3) = 0 then 0 else 1)
  refine lv_aload_n hx hb d_LW_law_408 rfl (lv_at hl 2 rfl) ?_
  refine lk_rd (d := 1) LX J hl (k0 := 1) (k4 := 0) rfl rfl (by omega) (by decide) d_LW_law_409 d_LW_law_410 d_LW_law_412 d_LW_law_413 d_LW_law_414 ?_
  refine lk_rd (d := 2) LX J hl (k0 := 1) (k4 := 0) rfl rfl (by omega) (by decide) d_LW_law_415 d_LW_law_416 d_LW_law_418 d_LW_law_419 d_LW_law_420 ?_
  refine lk_bool LX J hl (k0 := 1) (k4 := 0) rfl rfl (by omega) d_LW_law_421 d_LW_law_422 d_LW_law_424 d_LW_law_425 d_LW_law_426 d_LW_law_427 d_LW_law_430 d_LW_law_431 d_LW_law_434 ?_
  refine lv_aload_n hx hb d_LW_law_435 rfl (lv_at hl 4 rfl) ?_
  refine lk_callW (As := [.ref (adC 0), .int (xs (i + 1)), .int (xs (i + 2)), .int (if xs (i + 3) = 0 then 0 else 1), .ref (adC 88)]) (rest := []) X hT hE hA J hW (hts _ lk_cw_entry) gm_LW_68 gt_LW_entry gn_LW gd_LW_entry (by decide) rfl hl.1 (Nat.le_of_ble_eq_true rfl) d_LW_law_436 hcs (fun r1 C1 H locs hp J => ?_)
  obtain ⟨rfl, rfl⟩ := hpW r1 C1 hp
  refine lv_istore hx hb d_LW_law_439 hl (by decide) rfl (fun ls hl => ?_)
  have hl : lv_has ls 7 [(5, .int r1), (4, .int (nI i)), (0, .ref b), (1, .ref (adC 0)), (2, .ref (adM 0)), (3, .ref (adC 88))] := hl
  refine lv_aload_n hx hb d_LW_law_441 rfl (lv_at hl 4 rfl) ?_
  refine lk_rd (d := 1) LX J hl (k0 := 2) (k4 := 1) rfl rfl (by omega) (by decide) d_LW_law_442 d_LW_law_443 d_LW_law_445 d_LW_law_446 d_LW_law_447 ?_
  refine lk_rd (d := 2) LX J hl (k0 := 2) (k4 := 1) rfl rfl (by omega) (by decide) d_LW_law_448 d_LW_law_449 d_LW_law_451 d_LW_law_452 d_LW_law_453 ?_
  refine lk_bool LX J hl (k0 := 2) (k4 := 1) rfl rfl (by omega) d_LW_law_454 d_LW_law_455 d_LW_law_457 d_LW_law_458 d_LW_law_459 d_LW_law_460 d_LW_law_463 d_LW_law_464 d_LW_law_467 ?_
  refine lk_callM (As := [.int (xs (i + 1)), .int (xs (i + 2)), .int (if xs (i + 3) = 0 then 0 else 1)]) (rest := []) X hA J hM ⟨gc_MO_entry, gm_LW_71, gn_MO, gd_MO_entry, by decide, by decide⟩ gi_MO_entry gs_MO_entry rfl hl.1 (Nat.le_of_ble_eq_true rfl) d_LW_law_468 hcs (fun a1 M1 H locs hp J => ?_)
  obtain ⟨q1, q2, q3, q4⟩ := hpM a1 M1 hp
  refine lv_istore hx hb d_LW_law_471 hl (by decide) rfl (fun ls hl => ?_)
  have hl : lv_has ls 7 [(6, .int a1), (5, .int r1), (4, .int (nI i)), (0, .ref b), (1, .ref (adC 0)), (2, .ref (adM 0)), (3, .ref (adC 88))] := hl
  refine lv_aload_n hx hb d_LW_law_473 rfl (lv_at hl 5 rfl) ?_
  refine lk_callM (As := []) (rest := []) X hA J (c_MO_thrown l D τ adM M1) ⟨gc_MO_thrown, gm_LW_50, gn_MO, gd_MO_thrown, by decide, by decide⟩ gi_MO_thrown gs_MO_thrown rfl hl.1 (Nat.le_of_ble_eq_true rfl) d_LW_law_474 hcs (fun a2 M2 H locs hp J => ?_)
  rw [hp.2] at J
  rw [hp.1, q1]
  refine lv_iload hx hb d_LW_law_477 (lv_at hl 1 rfl) ?_
  refine lv_icmp_eq (tgt := 484) hx hb d_LW_law_479 (by decide) (fun _ => ?_) (fun z => absurd rfl z)
  refine lv_iload hx hb d_LW_law_484 (lv_at hl 1 rfl) ?_
  have fin : W p l e room_1 s m #[Value.ref b] below meth c H locs (cells + 1) (slots + 6) Q (F0 m 501 ls []) := by
    refine lv_goto (tgt := 586) hx hb d_LW_law_501 (by decide) ?_
    exact kk _ _ H locs ls J q3 q4 (lk_drop (lk_drop hl))
  refine lv_if_ne (tgt := 501) hx hb d_LW_law_486 (by decide) (fun _ => fin) (fun z => ?_)
  refine lv_aload_n hx hb d_LW_law_489 rfl (lv_at hl 6 rfl) ?_
  refine lv_iconst (v := 0) hx hb d_LW_law_490 (by decide) ?_
  refine lk_lald X J d_LW_law_491 ?_
  refine lv_iload hx hb d_LW_law_492 (lv_at hl 0 rfl) ?_
  refine lv_i2l hx hb d_LW_law_494 rfl ?_
  refine W.lcmp hx hb d_LW_law_495 ?_
  rw [lk_cmp0 (by rw [q2 z])]
  exact lv_if_eq (tgt := 501) hx hb d_LW_law_496 (by decide) (fun _ => fin) (fun z => absurd rfl z)
theorem lk_turn_root (hl0 : l.stackTraces = false) (LX : lk_LX p s m meth c b L xs D τ A) (J : lk_J D τ A s.heap adC adM C M H locs) (sx : lk_SX 24 C M) (inv : lk_Inv M) (hi : i + 5 ≤ L) (hl : lv_has ls 7 (lk_LV i b adC adM)) (hcs : cells + 1 ≤ 614326 ∧ slots + 6 ≤ 7253127)
    (kk : ∀ (C1 M1 : lk_M) (H1 : Heap) (locs1 : List Loc) (ls1 : Array Slot), lk_J D τ A s.heap adC adM C1 M1 H1 locs1 → lk_SX 24 C1 M1 → lk_Inv M1 → lv_has ls1 7 (lk_LV i b adC adM) → W p l e room_1 s m #[Value.ref b] below meth c H1 locs1 (cells + 1) (slots + 6) Q (F0 m 586 ls1 [])) : W p l e room_1 s m #[Value.ref b] below meth c H locs cells slots Q (F0 m 504 ls []) := by
  have X := LX.1
  have hts := LX.2.1
  have hE := LX.2.2.1
  have hA := LX.2.2.2.1
  have hT : ∀ w ∈ lk_GT, w.before #[Value.ref b] s = true := fun w hw => hts w (lk_tbT w hw)
  obtain ⟨hx, hb, -⟩ := id X
  have hl : lv_has ls 7 [(4, .int (nI i)), (0, .ref b), (1, .ref (adC 0)), (2, .ref (adM 0)), (3, .ref (adC 88))] := hl
  refine lv_aload_n hx hb d_LW_law_504 rfl (lv_at hl 2 rfl) ?_
  refine lk_callC (As := []) (rest := []) X hA J (c_LT_root l D τ adC C) ⟨gc_LT_root, gm_LW_72, gn_LT, gd_LT_root, by decide, by decide⟩ gi_LT_root gs_LT_root rfl hl.1 (Nat.le_of_ble_eq_true rfl) d_LW_law_505 ⟨Nat.le_of_succ_le hcs.1, Nat.le_trans (Nat.le_add_right _ _) hcs.2⟩ (fun r1 C1 H locs hp J => ?_)
  rw [hp.2] at J
  rw [hp.1]
  refine lv_aload_n hx hb d_LW_law_508 rfl (lv_at hl 3 rfl) ?_
  refine lk_callM (As := []) (rest := [.int (C 24 0)]) X hA J (c_MO_root l D τ adM M) ⟨gc_MO_root, gm_LW_75, gn_MO, gd_MO_root, by decide, by decide⟩ gi_MO_root gs_MO_root rfl hl.1 (Nat.le_of_ble_eq_true rfl) d_LW_law_509 ⟨Nat.le_of_succ_le hcs.1, Nat.le_trans (Nat.le_add_right _ _) hcs.2⟩ (fun r2 M1 H locs hp J => ?_)
  rw [hp.2] at J
  rw [hp.1, sx.rt]
  refine lv_icmp_eq (tgt := 586) hx hb d_LW_law_512 (by decide) (fun _ => ?_) (fun z => absurd rfl z)
  exact W.widen (Nat.le_succ _) (Nat.le_add_right _ _) (kk _ _ H locs ls J sx.box.thr (lk_Inv_thr inv) hl)
theorem lk_turn_queued (hl0 : l.stackTraces = false) (LX : lk_LX p s m meth c b L xs D τ A) (J : lk_J D τ A s.heap adC adM C M H locs) (sx : lk_SX 24 C M) (inv : lk_Inv M) (hi : i + 5 ≤ L) (hl : lv_has ls 7 (lk_LV i b adC adM)) (hcs : cells + 1 ≤ 614326 ∧ slots + 6 ≤ 7253127)
    (kk : ∀ (C1 M1 : lk_M) (H1 : Heap) (locs1 : List Loc) (ls1 : Array Slot), lk_J D τ A s.heap adC adM C1 M1 H1 locs1 → lk_SX 24 C1 M1 → lk_Inv M1 → lv_has ls1 7 (lk_LV i b adC adM) → W p l e room_1 s m #[Value.ref b] below meth c H1 locs1 (cells + 1) (slots + 6) Q (F0 m 586 ls1 [])) : W p l e room_1 s m #[Value.ref b] below meth c H locs cells slots Q (F0 m 517 ls []) := by
  have X := LX.1
  have hts := LX.2.1
  have hE := LX.2.2.1
  have hA := LX.2.2.2.1
  have hT : ∀ w ∈ lk_GT, w.before #[Value.ref b] s = true := fun w hw => hts w (lk_tbT w hw)
  obtain ⟨hx, hb, -⟩ := id X
  have hl : lv_has ls 7 [(4, .int (nI i)), (0, .ref b), (1, .ref (adC 0)), (2, .ref (adM 0)), (3, .ref (adC 88))] := hl
  refine lv_aload_n hx hb d_LW_law_517 rfl (lv_at hl 2 rfl) ?_
  refine lk_callC (As := []) (rest := []) X hA J (c_LT_queued l D τ adC C) ⟨gc_LT_queued, gm_LW_76, gn_LT, gd_LT_queued, by decide, by decide⟩ gi_LT_queued gs_LT_queued rfl hl.1 (Nat.le_of_ble_eq_true rfl) d_LW_law_518 ⟨Nat.le_of_succ_le hcs.1, Nat.le_trans (Nat.le_add_right _ _) hcs.2⟩ (fun r1 C1 H locs hp J => ?_)
  rw [hp.2] at J
  rw [hp.1]
  refine lv_aload_n hx hb d_LW_law_521 rfl (lv_at hl 3 rfl) ?_
  refine lk_callM (As := []) (rest := [.int (C 24 1)]) X hA J (c_MO_queued l D τ adM M) ⟨gc_MO_queued, gm_LW_79, gn_MO, gd_MO_queued, by decide, by decide⟩ gi_MO_queued gs_MO_queued rfl hl.1 (Nat.le_of_ble_eq_true rfl) d_LW_law_522 ⟨Nat.le_of_succ_le hcs.1, Nat.le_trans (Nat.le_add_right _ _) hcs.2⟩ (fun r2 M1 H locs hp J => ?_)
  rw [hp.2] at J
  rw [hp.1, sx.qn]
  refine lv_icmp_eq (tgt := 586) hx hb d_LW_law_525 (by decide) (fun _ => ?_) (fun z => absurd rfl z)
  exact W.widen (Nat.le_succ _) (Nat.le_add_right _ _) (kk _ _ H locs ls J sx.box.thr (lk_Inv_thr inv) hl)
end Turns
