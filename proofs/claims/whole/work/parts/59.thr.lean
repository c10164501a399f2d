/-! throws of the class's methods: what they want at a method's entry, beside the words -/
def lk_eI : String := "java/lang/IllegalArgumentException"
def lk_eS : String := "java/lang/IllegalStateException"
def lk_eN : String := "java/util/NoSuchElementException"
def lk_exn : List String := ["java/lang/RuntimeException", "java/lang/Exception"]
def lk_rxN : ByteArray := prog_13_method_4_code
def lk_atN : List Cond := lk_atX R_LT 109 lk_eN 13 lk_rxN lk_exn
def lk_GT : List Cond := (vx_atS R_LT 55 lk_eI lk_exn).filter goodWord ++ ((vx_atS R_LT 68 lk_eS lk_exn).filter goodWord ++ lk_atN.filter goodWord)
def lk_NG : List Cond := (vx_atS R_LT 55 lk_eI lk_exn).filter (fun w => !goodWord w) ++ ((vx_atS R_LT 68 lk_eS lk_exn).filter (fun w => !goodWord w) ++ lk_atN.filter (fun w => !goodWord w))
def lk_strs : List (Nat × String) := [(53, "no such task or operation"), (58, "no such key"), (66, "the task is not idle"), (88, "no such task"), (90, "the task is idle"), (107, "the task has finished no operation"), (113, "no such task or thing to look at"), (130, "no such page or thing to look at"), (152, "no such entry"), (162, "the page is no node")]
def lk_dcb (w : Cond) : Bool := match w with
  | .declares _ => true
  | .castable _ _ => true
  | _ => false
theorem lk_NG_dc : lk_NG.all lk_dcb = true := by decide +kernel
theorem lk_dc_warm {w : Cond} {s U : State} (hd : lk_dcb w = true) (hW : s.WarmedH U.vm) (h : va_Nw w s) : va_Nw w U := by
  unfold lk_dcb at hd
  split at hd
  · exact va_tabs rfl (rfl : (s.setVm U.vm).vm = U.vm) (by rw [Cond.declares_setVm hW.alike]; exact h)
  · exact va_Nw.warmC hW h
  · cases hd
def lk_En (A : Nat → Prop) (U : State) (H : Heap) : Prop := vx_Zq Bundle.tN "UNASSIGNED_STACK" Bundle.steD A U H ∧ vx_Zq Bundle.tN "SUPPRESSED_SENTINEL" Bundle.listD A U H ∧ (∀ q ∈ lk_strs, ∃ sa, vk_R R_LT q.1 q.2 sa U) ∧ (∀ w ∈ lk_NG, va_Nw w U) ∧ va_Nc lk_eS lk_eI U ∧ va_Nc lk_eN lk_eI U
theorem lk_En.go {A : Nat → Prop} {s U : State} {H H1 : Heap} (h : lk_En A s H) (hW : s.WarmedH U.vm) (hq : ∀ a : Nat, a < H.size → ¬ A a → H1[a]? = H[a]?) : lk_En A U H1 := by
  obtain ⟨h1, h2, h3, h4, h5, h6⟩ := h
  refine ⟨vx_Zq.moved hW.alike (h1.kept hq), vx_Zq.moved hW.alike (h2.kept hq), fun q hq => ?_, fun w hw => lk_dc_warm (List.all_eq_true.mp lk_NG_dc w hw) hW (h4 w hw), va_Nc.moved hW.alike h5, va_Nc.moved hW.alike h6⟩
  obtain ⟨sa, h⟩ := h3 q hq
  exact ⟨sa, vk_R.warm hW h⟩
theorem lk_En.narrow {A B : Nat → Prop} {U : State} {H : Heap} (h : lk_En A U H) (hAB : ∀ q, B q → A q) : lk_En B U H := ⟨h.1.narrow hAB, h.2.1.narrow hAB, h.2.2⟩
def lk_site (at_ : List Cond) (ik is : Nat) (cls text : String) : Prop := Bundle.fit cls = true ∧ Cond.classLink R_LT ik cls ∈ lk_G ∧ Cond.initialized cls ∈ lk_G ∧ (is, text) ∈ lk_strs ∧ (∀ w ∈ at_.filter goodWord, w ∈ lk_GT) ∧ (∀ w ∈ at_.filter (fun w => !goodWord w), w ∈ lk_NG) ∧ at_.all vx_ot = true
theorem lk_siteI (is : Nat) (text : String) (h : (is, text) ∈ lk_strs) : lk_site (vx_atS R_LT 55 lk_eI lk_exn) 51 is lk_eI text := ⟨by decide +kernel, gk_LT_51, gn_IllegalArgumentException, h, fun w hw => List.mem_append_left _ hw, fun w hw => List.mem_append_left _ hw, by decide +kernel⟩
theorem lk_siteS (is : Nat) (text : String) (h : (is, text) ∈ lk_strs) : lk_site (vx_atS R_LT 68 lk_eS lk_exn) 64 is lk_eS text := ⟨by decide +kernel, gk_LT_64, gn_IllegalStateException, h, fun w hw => List.mem_append_right _ (List.mem_append_left _ hw), fun w hw => List.mem_append_right _ (List.mem_append_left _ hw), by decide +kernel⟩
theorem lk_siteN (is : Nat) (text : String) (h : (is, text) ∈ lk_strs) : lk_site lk_atN 105 is lk_eN text := ⟨by decide +kernel, gk_LT_105, gn_NoSuchElementException, h, fun w hw => List.mem_append_right _ (List.mem_append_right _ hw), fun w hw => List.mem_append_right _ (List.mem_append_right _ hw), by decide +kernel⟩
theorem lk_okGT : ∀ w ∈ lk_GT, goodWord w = true := by
  intro w hw
  unfold lk_GT at hw
  rcases List.mem_append.mp hw with h | h
  · exact (List.mem_filter.mp h).2
  · rcases List.mem_append.mp h with h | h
    · exact (List.mem_filter.mp h).2
    · exact (List.mem_filter.mp h).2
abbrev lk_rx (fr lo : Nat) : Room := { frames := fr, cells := 1, slots := 6, locals := lo }
section
variable {p : Program} {l : Launch} {e : Env} {R : Room} {s : State} {m : MethodId} {args : Array Value} {below : List Frame} {meth : Method} {c : Code} {H : Heap} {locs : List Loc}
variable {D : va_G} {τ : Nat → ClassId} {n : Nat} {ad : Nat → Nat} {el : lk_M → Nat → va_E} {y : MethodName} {b : ByteArray} {nL : Nat} {ret : Option FieldType} {A : Nat → Prop} {pc : Nat} {ls : Array Slot} {σ : lk_M}
theorem lk_Bh_of {t : State} (hK : va_K D lk_cl (lk_tys τ) s) (h : lk_H D lk_cl A s.heap (lk_w n ad (el σ)) H locs) (hvm : s.vm.Alike t.vm) (hq : ∀ q : Nat, q < H.size → t.heap[q]? = H[q]?) : lk_Bh D τ n ad el σ t :=
  ⟨h.P.kept (fun k q hk => hq q.1 (vx_lt h.P hk)), va_K.moved hvm hK⟩
theorem lk_thr {Qc : Array Value → State → Outcome → State → Prop} (hl0 : l.stackTraces = false) (X : lk_X p s m args meth c y b nL ret D τ) (hy : y.cls = R_LT) (hT : ∀ w ∈ lk_GT, w.before args s = true) (hE : lk_En A s s.heap) (h : lk_H D lk_cl A s.heap (lk_w n ad (el σ)) H locs) (ht : ∀ x ∈ c.exceptionTable.toList, False)
    {cls text : String} {ik is ic : Nat} (hs : lk_site (vx_atS R_LT ic cls lk_exn) ik is cls text) (hsz : ls.size = nL)
    (d0 : decode b pc = .ok (.new ik, 3)) (d3 : decode b (pc + 3) = .ok (.dup, 1)) (d4 : decode b (pc + 4) = .ok (.ldc is, 2)) (d6 : decode b (pc + 6) = .ok (.invokespecial ic, 3)) (d9 : decode b (pc + 9) = .ok (.athrow, 1))
    (hR : 6 ≤ R.frames ∧ 82 ≤ R.locals ∧ 1 ≤ R.cells ∧ 6 ≤ R.slots) :
    W p l e R s m args below meth c H locs 0 0 (vx_MQ below Qc (vx_X (fun u => u = σ) (fun E u t => E = cls ∧ lk_Bh D τ n ad el u t) A) args s 1 6 A) (F0 m pc ls []) := by
  obtain ⟨hx, hb, hml, -, hts, hown, hlocks, hK⟩ := X
  obtain ⟨hU, hN, hst, hng, -⟩ := hE
  obtain ⟨s1, s2, s3, s4, s5, s6, s7⟩ := hs
  obtain ⟨sa, hsa⟩ := hst _ s4
  rw [hy] at hown
  refine vx_throwS hx hb hl0 (own := R_LT) (cls := cls) (text := text) (names := lk_exn) (ik := ik) (is := is) (ic := ic) (A := A) hown s1 (by decide +kernel) (hts _ s2) (hts _ s3) hsa ?_ ?_ hU hN h.S (hsz.trans hml.symm) d0 d3 d4 d6 d9 (fun x hx => (ht x hx).elim) (Nat.lt_of_lt_of_le (by decide) hR.1) (Nat.le_trans (by decide) hR.2.1) (by have := hR.2.2.1; omega) (by have := hR.2.2.2; omega) hlocks ?_ h.S.2.2 (by decide) (by decide)
  · intro w hw
    by_cases g : goodWord w = true
    · exact hT w (s5 w (List.mem_filter.mpr ⟨hw, g⟩))
    · have h9 : w ∈ lk_NG := s6 w (List.mem_filter.mpr ⟨hw, by cases hg : goodWord w <;> simp_all⟩)
      have hd := List.all_eq_true.mp lk_NG_dc w h9
      have h8 := hng w h9
      unfold lk_dcb at hd
      split at hd
      · exact va_Nw.use (A := args) rfl h8
      · exact va_Nw.use (A := args) rfl h8
      · cases hd
  · intro w hw
    rcases List.mem_cons.mp hw with rfl | hw
    · rfl
    · rcases List.mem_cons.mp hw with rfl | hw
      · rfl
      · exact List.all_eq_true.mp s7 w hw
  · intro t hvm hz hq
    refine ⟨σ, rfl, ⟨rfl, lk_Bh_of hK h hvm hq⟩, Nat.le_trans h.S.1 hz, fun q h1 h2 => ?_⟩
    rw [hq q (Nat.lt_of_lt_of_le h1 h.S.1)]
    exact h.S.2.1 q h1 h2
theorem lk_thrN {Qc : Array Value → State → Outcome → State → Prop} (hl0 : l.stackTraces = false) (X : lk_X p s m args meth c y b nL ret D τ) (hy : y.cls = R_LT) (hT : ∀ w ∈ lk_GT, w.before args s = true) (hE : lk_En A s s.heap) (h : lk_H D lk_cl A s.heap (lk_w n ad (el σ)) H locs) (ht : ∀ x ∈ c.exceptionTable.toList, False)
    {cls text : String} {ik is ic : Nat} (hs : lk_site lk_atN ik is cls text) (hcls : cls = lk_eN) (hic : ic = 109) (hsz : ls.size = nL)
    (d0 : decode b pc = .ok (.new ik, 3)) (d3 : decode b (pc + 3) = .ok (.dup, 1)) (d4 : decode b (pc + 4) = .ok (.ldc is, 2)) (d6 : decode b (pc + 6) = .ok (.invokespecial ic, 3)) (d9 : decode b (pc + 9) = .ok (.athrow, 1))
    (hR : 6 ≤ R.frames ∧ 82 ≤ R.locals ∧ 1 ≤ R.cells ∧ 6 ≤ R.slots) :
    W p l e R s m args below meth c H locs 0 0 (vx_MQ below Qc (vx_X (fun u => u = σ) (fun E u t => E = cls ∧ lk_Bh D τ n ad el u t) A) args s 1 6 A) (F0 m pc ls []) := by
  subst hcls hic
  obtain ⟨hx, hb, hml, -, hts, hown, hlocks, hK⟩ := X
  obtain ⟨hU, hN, hst, hng, -⟩ := hE
  obtain ⟨s1, s2, s3, s4, s5, s6, s7⟩ := hs
  obtain ⟨sa, hsa⟩ := hst _ s4
  rw [hy] at hown
  refine vx_throwSX (ix := 13) (rx := lk_rxN) hx hb hl0 (own := R_LT) (cls := lk_eN) (text := text) (names := lk_exn) (ik := ik) (is := is) (ic := 109) (A := A) (by decide +kernel) (by decide +kernel) (by decide +kernel) (by decide +kernel) hown s1 (by decide +kernel) (hts _ s2) (hts _ s3) hsa ?_ ?_ hU hN h.S (hsz.trans hml.symm) d0 d3 d4 d6 d9 (fun x hx => (ht x hx).elim) (Nat.lt_of_lt_of_le (by decide) hR.1) (Nat.le_trans (by decide) hR.2.1) (by have := hR.2.2.1; omega) (by have := hR.2.2.2; omega) hlocks ?_ h.S.2.2 (by decide) (by decide)
  · intro w hw
    by_cases g : goodWord w = true
    · exact hT w (s5 w (List.mem_filter.mpr ⟨hw, g⟩))
    · have h9 : w ∈ lk_NG := s6 w (List.mem_filter.mpr ⟨hw, by cases hg : goodWord w <;> simp_all⟩)
      have hd := List.all_eq_true.mp lk_NG_dc w h9
      have h8 := hng w h9
      unfold lk_dcb at hd
      split at hd
      · exact va_Nw.use (A := args) rfl h8
      · exact va_Nw.use (A := args) rfl h8
      · cases hd
  · intro w hw
    rcases List.mem_cons.mp hw with rfl | hw
    · rfl
    · rcases List.mem_cons.mp hw with rfl | hw
      · rfl
      · exact List.all_eq_true.mp s7 w hw
  · intro t hvm hz hq
    refine ⟨σ, rfl, ⟨rfl, lk_Bh_of hK h hvm hq⟩, Nat.le_trans h.S.1 hz, fun q h1 h2 => ?_⟩
    rw [hq q (Nat.lt_of_lt_of_le h1 h.S.1)]
    exact h.S.2.1 q h1 h2
end
