def R_law : String := "LinkTreeLaw"
def lw_P (b : Addr) (xs : List Int32) (args : Array Value) (s : State) : Prop := args = #[.ref b] ∧ s.IntsAt b xs ∧ xs.length ≤ 2560 ∧ (Jvm.Cond.and given_1 narrow_1).before args s = true
def lw_Q (_ : Array Value) (s : State) (o : Outcome) (t : State) : Prop := o = .returned (some (.int 1)) ∧ Framed s o t [] 614326 7253127
def lw_Z (below : List Frame) (a : Array Value) (s : State) : State → Prop := fun t => ∃ o, t.status = .running ∧ Ended t below o ∧ lw_Q a s o t
/-- the law's own end, with 1 on the stack, nothing written that was there before, its room as the claim has it -/
theorem lw_ret {p : Program} {l : Launch} {e : Env} {s : State} {m : MethodId} {below : List Frame} {meth : Method} {c : Code} {b : Nat} (hx : p.tables.exec = Jvm.exec) (hb : c.code = code) (hr : meth.sig.returnType = ret) (hlocks : meth.locks = false) {pc : Nat} {H : Heap} {ls : Array Slot} (hdg : decode code pc = .ok (.ireturn, 1)) : W p l e room_1 s m #[Value.ref b] below meth c H [] 614326 7253127 (lw_Z below #[Value.ref b] s) (F0 m pc ls [.int 1]) := by
  intro T hT X
  obtain ⟨fs, hret, hrun, hended, hW, hframe⟩ := X.leave (v := some (.int 1)) (hlocks := hlocks) (fun h => by rw [hr] at h; cases h)
  have hmeth' : T.vm.method? m = some meth := X.method'
  refine ⟨T.setFrames fs, ?_, .returned (some (.int 1)), hrun, hended, rfl, ⟨_, rfl⟩, hW, hframe⟩
  jvm_step X.here [X.here.top, hx, hb, hdg, hmeth', hr, ret, narrow_b1]
  (try refine ⟨rfl, ?_⟩); (try refine ⟨rfl, ?_⟩)
  first | (intro acts; rw [hret _ acts rfl rfl rfl]) | rw [hret _ _ rfl rfl rfl]
  exact Steps.refl _
/-- what holds at the law's entry: the machine, the code, the tables' words (any of lw_tbl by 'hts w (by decide +kernel)'), the script of L ints xs at the cell b, what the Statement gives of the start (any of its parts by flat_of_before) -/
def lw_At (p : Program) (s : State) (m : MethodId) (meth : Method) (c : Code) (b L : Nat) (xs : Nat → Int32) : Prop :=
  p.tables.exec = Jvm.exec ∧ c.code = code ∧ meth.sig.returnType = ret ∧ c.maxLocals = 7 ∧ s.vm.findClass R_law = some m.cls ∧ (∀ w ∈ lw_tbl, w.before #[Value.ref b] s = true) ∧ va_X b L xs s s.heap ∧ b < s.heap.size ∧ meth.locks = false ∧ (Jvm.Cond.and given_1 narrow_1).before #[Value.ref b] s = true
/-! the loop of the law -/
section Loop
variable {p : Program} {l : Launch} {e : Env} {s : State} {m : MethodId} {below : List Frame} {meth : Method} {c : Code} {H : Heap} {locs : List Loc} {cells slots : Nat} {Q : State → Prop}
variable {D : va_G} {τ : Nat → ClassId} {adC adM : Nat → Nat} {C M : lk_M} {A : Nat → Prop} {pc i b L : Nat} {xs : Nat → Int32} {ls : Array Slot} {rest : List Value}
theorem lk_head (LX : lk_LX p s m meth c b L xs D τ A) (J : lk_J D τ A s.heap adC adM C M H locs) (hl : lv_has ls 7 (lk_LV i b adC adM)) (hi : i ≤ 3000) (ke : L < i + 5 → W p l e room_1 s m #[Value.ref b] below meth c H locs cells slots Q (F0 m 592 ls [])) (kg : i + 5 ≤ L → W p l e room_1 s m #[Value.ref b] below meth c H locs cells slots Q (F0 m 32 ls [])) : W p l e room_1 s m #[Value.ref b] below meth c H locs cells slots Q (F0 m 23 ls []) := by
  obtain ⟨X, hts, hE, hA, hX, hbl, hbA, hL⟩ := LX
  obtain ⟨hx, hb, -⟩ := id X
  have hl : lv_has ls 7 [(4, .int (nI i)), (0, .ref b), (1, .ref (adC 0)), (2, .ref (adM 0)), (3, .ref (adC 88))] := hl
  refine lv_iload hx hb d_LW_law_23 (lv_at hl 0 rfl) ?_
  refine lv_aload_n hx hb d_LW_law_25 rfl (lv_at hl 1 rfl) ?_
  refine va_slen hx hb hX hbl hbA J.1.S d_LW_law_26 ?_
  show W p l e room_1 s m #[Value.ref b] below meth c H locs cells slots Q (F0 m 27 ls [.int (nI L), .int (nI i)])
  refine lv_iconst (v := nI 5) hx hb d_LW_law_27 (by decide) ?_
  refine lv_isub hx hb d_LW_law_28 ?_
  have e5 : (nI L - nI 5).toInt = (L : Int) - 5 := pk_sub_toInt (by omega) (by omega)
  refine lv_icmp_gt (tgt := 592) hx hb d_LW_law_29 (by decide) (fun z => ?_) (fun z => ?_)
  · rw [Int32.lt_iff_toInt_lt, e5, nI_toInt (by omega)] at z
    exact ke (by omega)
  · rw [Int32.lt_iff_toInt_lt, e5, nI_toInt (by omega)] at z
    exact kg (by omega)
theorem lk_exit (LX : lk_LX p s m meth c b L xs D τ A) (hAs : ∀ q, A q → s.heap.size ≤ q) (J : lk_J D τ A s.heap adC adM C M H locs) (hc : cells ≤ 614326) (hs : slots ≤ 7253127) : W p l e room_1 s m #[Value.ref b] below meth c H locs cells slots (lw_Z below #[Value.ref b] s) (F0 m 592 ls []) := by
  obtain ⟨X, -⟩ := LX
  obtain ⟨hx, hb, hml, hr, -, -, hlocks, -⟩ := id X
  refine va_forget (fun q hq => hAs _ (J.1.S.2.2 q hq)) ?_
  refine W.widen hc hs ?_
  refine lv_iconst (v := 1) hx hb d_LW_law_592 (by decide) ?_
  exact lw_ret hx hb hr hlocks d_LW_law_593
theorem lk_next (LX : lk_LX p s m meth c b L xs D τ A) (hl : lv_has ls 7 (lk_LV i b adC adM)) (kk : ∀ ls1 : Array Slot, lv_has ls1 7 (lk_LV (i + 5) b adC adM) → W p l e room_1 s m #[Value.ref b] below meth c H locs cells slots Q (F0 m 23 ls1 [])) : W p l e room_1 s m #[Value.ref b] below meth c H locs cells slots Q (F0 m 586 ls []) := by
  obtain ⟨X, -⟩ := LX
  obtain ⟨hx, hb, -⟩ := id X
  have hl : lv_has ls 7 [(4, .int (nI i)), (0, .ref b), (1, .ref (adC 0)), (2, .ref (adM 0)), (3, .ref (adC 88))] := hl
  refine lv_iinc (k := 0) (v := nI (i + 5)) hx hb d_LW_law_586 hl rfl (by rw [show Int32.ofInt 5 = nI 5 from by decide, nI_add]) (by decide) rfl (fun ls hl => ?_)
  exact lv_goto (tgt := 23) hx hb d_LW_law_589 (by decide) (kk ls hl)
theorem lk_body (hl0 : l.stackTraces = false) (LX : lk_LX p s m meth c b L xs D τ A) (J : lk_J D τ A s.heap adC adM C M H locs) (sx : lk_SX 24 C M) (inv : lk_Inv M) (hi : i + 5 ≤ L) (hl : lv_has ls 7 (lk_LV i b adC adM)) (hcs : cells + 1 ≤ 614326 ∧ slots + 6 ≤ 7253127)
    (kk : ∀ (C1 M1 : lk_M) (H1 : Heap) (locs1 : List Loc) (ls1 : Array Slot), lk_J D τ A s.heap adC adM C1 M1 H1 locs1 → lk_SX 24 C1 M1 → lk_Inv M1 → lv_has ls1 7 (lk_LV i b adC adM) → W p l e room_1 s m #[Value.ref b] below meth c H1 locs1 (cells + 1) (slots + 6) Q (F0 m 586 ls1 [])) : W p l e room_1 s m #[Value.ref b] below meth c H locs cells slots Q (F0 m 32 ls []) := by
  have X := LX.1
  obtain ⟨hx, hb, -⟩ := id X
  have hl' : lv_has ls 7 [(4, .int (nI i)), (0, .ref b), (1, .ref (adC 0)), (2, .ref (adM 0)), (3, .ref (adC 88))] := hl
  refine lv_aload_n hx hb d_LW_law_32 rfl (lv_at hl' 1 rfl) ?_
  refine lv_iload hx hb d_LW_law_33 (lv_at hl' 0 rfl) ?_
  refine lk_sld LX J (by omega) d_LW_law_35 ?_
  refine lv_bipush (v := 15) hx hb d_LW_law_36 (by decide) ?_
  refine lv_iand hx hb d_LW_law_38 ?_
  by_cases e0 : xs i &&& 15 = nI 0
  · rw [e0]
    exact lv_tableIn (tgt := 88) hx hb d_LW_law_39 (by decide) (by decide) rfl (by decide) (lk_turn_begin hl0 LX J sx inv hi hl hcs kk)
  by_cases e1 : xs i &&& 15 = nI 1
  · rw [e1]
    exact lv_tableIn (tgt := 160) hx hb d_LW_law_39 (by decide) (by decide) rfl (by decide) (lk_turn_step hl0 LX J sx inv hi hl hcs kk)
  by_cases e2 : xs i &&& 15 = nI 2
  · rw [e2]
    exact lv_tableIn (tgt := 216) hx hb d_LW_law_39 (by decide) (by decide) rfl (by decide) (lk_turn_answer hl0 LX J sx inv hi hl hcs kk)
  by_cases e3 : xs i &&& 15 = nI 3
  · rw [e3]
    exact lv_tableIn (tgt := 272) hx hb d_LW_law_39 (by decide) (by decide) rfl (by decide) (lk_turn_look hl0 LX J sx inv hi hl hcs kk)
  by_cases e4 : xs i &&& 15 = nI 4
  · rw [e4]
    exact lv_tableIn (tgt := 340) hx hb d_LW_law_39 (by decide) (by decide) rfl (by decide) (lk_turn_page hl0 LX J sx inv hi hl hcs kk)
  by_cases e5 : xs i &&& 15 = nI 5
  · rw [e5]
    exact lv_tableIn (tgt := 408) hx hb d_LW_law_39 (by decide) (by decide) rfl (by decide) (lk_turn_entry hl0 LX J sx inv hi hl hcs kk)
  by_cases e6 : xs i &&& 15 = nI 6
  · rw [e6]
    exact lv_tableIn (tgt := 504) hx hb d_LW_law_39 (by decide) (by decide) rfl (by decide) (lk_turn_root hl0 LX J sx inv hi hl hcs kk)
  by_cases e7 : xs i &&& 15 = nI 7
  · rw [e7]
    exact lv_tableIn (tgt := 517) hx hb d_LW_law_39 (by decide) (by decide) rfl (by decide) (lk_turn_queued hl0 LX J sx inv hi hl hcs kk)
  by_cases e8 : xs i &&& 15 = nI 8
  · rw [e8]
    exact lv_tableIn (tgt := 530) hx hb d_LW_law_39 (by decide) (by decide) rfl (by decide) (lk_turn_under hl0 LX J sx inv hi hl hcs kk)
  refine lv_tableOut (tgt := 586) hx hb d_LW_law_39 ?_ (by decide) (W.widen (Nat.le_succ _) (Nat.le_add_right _ _) (kk C M H locs ls J sx inv hl))
  by_cases z1 : (xs i &&& 15).toInt < 0
  · exact Or.inl z1
  · right
    by_cases z2 : 8 < (xs i &&& 15).toInt
    · exact z2
    · exfalso
      obtain ⟨t, ht, et⟩ := lk_Int32_nat (x := xs i &&& 15) (b := 8) (by omega) (by omega)
      have : t = 0 ∨ t = 1 ∨ t = 2 ∨ t = 3 ∨ t = 4 ∨ t = 5 ∨ t = 6 ∨ t = 7 ∨ t = 8 := by omega
      rcases this with z | z | z | z | z | z | z | z | z <;> subst z
      · exact e0 et
      · exact e1 et
      · exact e2 et
      · exact e3 et
      · exact e4 et
      · exact e5 et
      · exact e6 et
      · exact e7 et
      · exact e8 et
theorem lk_loop (hl0 : l.stackTraces = false) (LX : lk_LX p s m meth c b L xs D τ A) (hAs : ∀ q, A q → s.heap.size ≤ q) : ∀ (n j : Nat), n + j = 513 → ∀ (C M : lk_M) (H : Heap) (locs : List Loc) (ls : Array Slot) (cells slots : Nat), lk_J D τ A s.heap adC adM C M H locs → lk_SX 24 C M → lk_Inv M → lv_has ls 7 (lk_LV (5 * j) b adC adM) → cells ≤ 200 + j → slots ≤ 3000 + 6 * j → W p l e room_1 s m #[Value.ref b] below meth c H locs cells slots (lw_Z below #[Value.ref b] s) (F0 m 23 ls []) := by
  intro n
  have hL := LX.2.2.2.2.2.2.2
  induction n with
  | zero =>
    intro j hj C M H locs ls cells slots J sx inv hl hc hs
    refine lk_head LX J hl (by omega) (fun _ => lk_exit LX hAs J (by omega) (by omega)) (fun z => ?_)
    omega
  | succ n ih =>
    intro j hj C M H locs ls cells slots J sx inv hl hc hs
    refine lk_head LX J hl (by omega) (fun _ => lk_exit LX hAs J (by omega) (by omega)) (fun z => ?_)
    refine lk_body hl0 LX J sx inv z hl ⟨by omega, by omega⟩ (fun C1 M1 H1 locs1 ls1 J1 sx1 inv1 hl1 => ?_)
    exact lk_next LX hl1 (fun ls2 hl2 => ih (j + 1) (by omega) C1 M1 H1 locs1 ls2 (cells + 1) (slots + 6) J1 sx1 inv1 hl2 (by omega) (by omega))
end Loop
