/-! what the throws want, at the law's entry -/
theorem lk_xs53 : Cond.exactly (.string R_LT 53) "java/lang/String" ∈ flatC (Jvm.Cond.and given_1 narrow_1) := by decide +kernel
theorem lk_xr53 : Cond.stringRef R_LT 53 "no such task or operation" ∈ lw_tbl := by decide +kernel
theorem lk_xs58 : Cond.exactly (.string R_LT 58) "java/lang/String" ∈ flatC (Jvm.Cond.and given_1 narrow_1) := by decide +kernel
theorem lk_xr58 : Cond.stringRef R_LT 58 "no such key" ∈ lw_tbl := by decide +kernel
theorem lk_xs66 : Cond.exactly (.string R_LT 66) "java/lang/String" ∈ flatC (Jvm.Cond.and given_1 narrow_1) := by decide +kernel
theorem lk_xr66 : Cond.stringRef R_LT 66 "the task is not idle" ∈ lw_tbl := by decide +kernel
theorem lk_xs88 : Cond.exactly (.string R_LT 88) "java/lang/String" ∈ flatC (Jvm.Cond.and given_1 narrow_1) := by decide +kernel
theorem lk_xr88 : Cond.stringRef R_LT 88 "no such task" ∈ lw_tbl := by decide +kernel
theorem lk_xs90 : Cond.exactly (.string R_LT 90) "java/lang/String" ∈ flatC (Jvm.Cond.and given_1 narrow_1) := by decide +kernel
theorem lk_xr90 : Cond.stringRef R_LT 90 "the task is idle" ∈ lw_tbl := by decide +kernel
theorem lk_xs107 : Cond.exactly (.string R_LT 107) "java/lang/String" ∈ flatC (Jvm.Cond.and given_1 narrow_1) := by decide +kernel
theorem lk_xr107 : Cond.stringRef R_LT 107 "the task has finished no operation" ∈ lw_tbl := by decide +kernel
theorem lk_xs113 : Cond.exactly (.string R_LT 113) "java/lang/String" ∈ flatC (Jvm.Cond.and given_1 narrow_1) := by decide +kernel
theorem lk_xr113 : Cond.stringRef R_LT 113 "no such task or thing to look at" ∈ lw_tbl := by decide +kernel
theorem lk_xs130 : Cond.exactly (.string R_LT 130) "java/lang/String" ∈ flatC (Jvm.Cond.and given_1 narrow_1) := by decide +kernel
theorem lk_xr130 : Cond.stringRef R_LT 130 "no such page or thing to look at" ∈ lw_tbl := by decide +kernel
theorem lk_xs152 : Cond.exactly (.string R_LT 152) "java/lang/String" ∈ flatC (Jvm.Cond.and given_1 narrow_1) := by decide +kernel
theorem lk_xr152 : Cond.stringRef R_LT 152 "no such entry" ∈ lw_tbl := by decide +kernel
theorem lk_xs162 : Cond.exactly (.string R_LT 162) "java/lang/String" ∈ flatC (Jvm.Cond.and given_1 narrow_1) := by decide +kernel
theorem lk_xr162 : Cond.stringRef R_LT 162 "the page is no node" ∈ lw_tbl := by decide +kernel
theorem lk_xn1 : Cond.not (.castable lk_eS lk_eI) ∈ flatC (Jvm.Cond.and given_1 narrow_1) := by decide +kernel
theorem lk_xn2 : Cond.not (.castable lk_eN lk_eI) ∈ flatC (Jvm.Cond.and given_1 narrow_1) := by decide +kernel
theorem lk_xu1 : Cond.isRef (.static Bundle.tN "UNASSIGNED_STACK" Bundle.steD) ∈ flatC (Jvm.Cond.and given_1 narrow_1) := by decide +kernel
theorem lk_xu2 : Cond.isRef (.static Bundle.tN "SUPPRESSED_SENTINEL" Bundle.listD) ∈ flatC (Jvm.Cond.and given_1 narrow_1) := by decide +kernel
theorem lk_xl1 : Cond.laysStatic Bundle.tN "UNASSIGNED_STACK" Bundle.steD ∈ lw_tbl := by decide +kernel
theorem lk_xl2 : Cond.laysStatic Bundle.tN "SUPPRESSED_SENTINEL" Bundle.listD ∈ lw_tbl := by decide +kernel
theorem lk_xi : Cond.initialized Bundle.tN ∈ lw_tbl := by decide +kernel
theorem lk_str {args : Array Value} {s : State} {k : Nat} {t : String} (hts : ∀ w ∈ lw_tbl, w.before args s = true) (hgv : (Jvm.Cond.and given_1 narrow_1).before args s = true) (h1 : Cond.exactly (.string R_LT k) "java/lang/String" ∈ flatC (Jvm.Cond.and given_1 narrow_1)) (h2 : Cond.stringRef R_LT k t ∈ lw_tbl) : ∃ sa, vk_R R_LT k t sa s := by
  obtain ⟨a, c, cell, kk, e1, -⟩ := Cond.exactly_spec (flat_of_before _ hgv _ h1)
  exact ⟨a, vk_R.of (hts _ h2) e1⟩
theorem lk_En_of {args : Array Value} {s : State} (hts : ∀ w ∈ lw_tbl, w.before args s = true) (hgv : (Jvm.Cond.and given_1 narrow_1).before args s = true) {A : Nat → Prop} (hA : ∀ a : Nat, a < s.heap.size → ¬ A a) : lk_En A s s.heap := by
  refine ⟨vx_Zqof (hts _ lk_xl1) (hts _ lk_xi) (flat_of_before _ hgv _ lk_xu1) hA, vx_Zqof (hts _ lk_xl2) (hts _ lk_xi) (flat_of_before _ hgv _ lk_xu2) hA, ?_, ?_, va_Nc.of (flat_of_before _ hgv _ lk_xn1), va_Nc.of (flat_of_before _ hgv _ lk_xn2)⟩
  · intro q hq
    unfold lk_strs at hq
    simp only [List.mem_cons, List.not_mem_nil, or_false] at hq
    rcases hq with rfl | rfl | rfl | rfl | rfl | rfl | rfl | rfl | rfl | rfl
    · exact lk_str hts hgv lk_xs53 lk_xr53
    · exact lk_str hts hgv lk_xs58 lk_xr58
    · exact lk_str hts hgv lk_xs66 lk_xr66
    · exact lk_str hts hgv lk_xs88 lk_xr88
    · exact lk_str hts hgv lk_xs90 lk_xr90
    · exact lk_str hts hgv lk_xs107 lk_xr107
    · exact lk_str hts hgv lk_xs113 lk_xr113
    · exact lk_str hts hgv lk_xs130 lk_xr130
    · exact lk_str hts hgv lk_xs152 lk_xr152
    · exact lk_str hts hgv lk_xs162 lk_xr162
  · intro w hw
    have hd := List.all_eq_true.mp lk_NG_dc w hw
    have h8 := hts w (lk_tbNG w hw)
    unfold lk_dcb at hd
    split at hd
    · exact va_tabs rfl rfl h8
    · exact va_tabs rfl rfl h8
    · cases hd
theorem lk_xo1 : Cond.arrayOver (.object R_ND) ∈ lw_tbl := by decide +kernel
theorem lk_xo2 : Cond.arrayOver (.object R_TA) ∈ lw_tbl := by decide +kernel
theorem lk_xo3 : Cond.methodLinkNest R_LT 35 y_SP_init R_LT ∈ lw_tbl := by decide +kernel
theorem lk_EL_of {args : Array Value} {s : State} (hts : ∀ w ∈ lw_tbl, w.before args s = true) : lk_EL s := ⟨va_AO.of (hts _ lk_xo1), va_AO.of (hts _ lk_xo2), va_tabs rfl rfl (hts _ lk_xo3)⟩
