theorem lk_K_of {args : Array Value} {s : State} (hts : ∀ w ∈ lw_tbl, w.before args s = true) : ∃ (D : va_G) (τ : Nat → ClassId), va_K D lk_cl (lk_tys τ) s := by
  obtain ⟨c0, i0, k0⟩ := u_known hts lk_tbLT (hts _ (lk_tbG _ ga_LT))
  obtain ⟨c1, i1, k1⟩ := u_known hts lk_tbND (hts _ (lk_tbG _ ga_ND))
  obtain ⟨c2, i2, k2⟩ := u_known hts lk_tbTA (hts _ (lk_tbG _ ga_TA))
  obtain ⟨c3, i3, k3⟩ := u_known hts lk_tbSP (hts _ (lk_tbG _ ga_SP))
  obtain ⟨c4, i4, k4⟩ := u_known hts lk_tbMO (hts _ (lk_tbG _ ga_MO))
  obtain ⟨a0, ka0, co0, f0, g0, h0⟩ := Cond.arrayClass_spec (hts _ (lk_tbG _ gA_int))
  obtain ⟨a1, ka1, co1, f1, g1, h1⟩ := Cond.arrayClass_spec (hts _ (lk_tbG _ gA_boolean))
  obtain ⟨a4, ka4, co4, f4, g4, h4⟩ := Cond.arrayClass_spec (hts _ (lk_tbG _ gA_long))
  obtain ⟨co2, a2, ka2, e2, -, g2, h2, f2⟩ := Cond.arrayOver_spec (hts _ lk_xo1)
  obtain ⟨co3, a3, ka3, e3, -, g3, h3, f3⟩ := Cond.arrayOver_spec (hts _ lk_xo2)
  refine ⟨(fun k => match k with | 0 => c0 | 1 => c1 | 2 => c2 | 3 => c3 | _ => c4, fun k => match k with | 0 => i0 | 1 => i1 | 2 => i2 | 3 => i3 | _ => i4), fun k => match k with | 0 => a0 | 1 => a1 | 2 => a2 | 3 => a3 | _ => a4, fun c q hq => ?_, fun k q hk => ?_⟩
  · rcases c with _ | _ | _ | _ | _ | c
    · cases hq; exact k0
    · cases hq; exact k1
    · cases hq; exact k2
    · cases hq; exact k3
    · cases hq; exact k4
    · cases hq
  · rcases k with _ | _ | _ | _ | _ | k
    · cases hk; exact ⟨fun N z => ⟨fun k h => (by cases h), ka0, g0, co0, h0⟩, f0⟩
    · cases hk; exact ⟨fun N z => ⟨fun k h => (by cases h), ka1, g1, co1, h1⟩, f1⟩
    · cases hk; exact ⟨fun N z => ⟨fun k h => (by cases h), ka2, g2, co2, h2⟩, ka2, co2, g2, h2, e2, f2⟩
    · cases hk; exact ⟨fun N z => ⟨fun k h => (by cases h), ka3, g3, co3, h3⟩, ka3, co3, g3, h3, e3, f3⟩
    · cases hk; exact ⟨fun N z => ⟨fun k h => (by cases h), ka4, g4, co4, h4⟩, f4⟩
    · cases hk
/-- from the entry, for every script, the law comes to its end with true -/
theorem whole_start {p : Program} {e : Env} {s : State} {m : MethodId} {below : List Frame} {meth : Method} {c : Code} (l : Launch) (hl0 : l.stackTraces = false) {b L : Nat} {xs : Nat → Int32} (hL : L ≤ 2560) (C0 : lw_At p s m meth c b L xs) : W p l e room_1 s m #[Value.ref b] below meth c s.heap [] 0 0 (lw_Z below #[Value.ref b] s) (entryFrame m ([Value.ref b] : List Value).toArray 7) := by
  obtain ⟨hx, hb, hr, hml, hown, hts, hX, hbl, hlocks, hgv⟩ := C0
  obtain ⟨D, τ, hK⟩ := lk_K_of hts
  have X : lk_X p s m #[Value.ref b] meth c y_LW_law b_LW_law 7 ret D τ := ⟨hx, hb, hml, hr, fun w hw => hts w (lk_tbG w hw), hown, hlocks, hK⟩
  have hA : ∀ q, s.heap.size ≤ q → (fun q => s.heap.size ≤ q) q := fun q h => h
  have hE := lk_En_of hts hgv (A := fun q => s.heap.size ≤ q) (fun a ha z => absurd ha (Nat.not_lt.mpr z))
  have LX : lk_LX p s m meth c b L xs D τ (fun q => s.heap.size ≤ q) := ⟨X, hts, hE, hA, hX, hbl, fun z => absurd hbl (Nat.not_lt.mpr z), hL⟩
  have hl := lv_entry [Value.ref b] (n := 7) (Nat.le_of_ble_eq_true rfl)
  rw [lg_entry_eq]
  generalize ((lg_sl [Value.ref b] ++ List.replicate (7 - (lg_sl [Value.ref b]).length) Slot.unset).toArray) = ls at hl ⊢
  have hl : lv_has ls 7 [(0, .ref b)] := hl
  have h : lk_H D lk_cl (fun q => s.heap.size ≤ q) s.heap [] s.heap [] := ⟨fun k q hk => (by cases hk), ⟨fun i j x y hx => (by cases hx), fun k q hk => (by cases hk)⟩, va_S.rf⟩
  refine in_newO (ci := 0) (fs := [.null, .null, .null, .null, .int 0]) X rfl h hA gl_LT ty_LT_ok ⟨gk_LW_8, ga_LT, gn_LT⟩ rfl lk_fsL (by decide) (by decide) d_LW_law_0 (fun q H h => ?_)
  have h : lk_H D lk_cl (fun q => s.heap.size ≤ q) s.heap [(q, lk_lt0)] H [] := h
  refine lv_dup hx hb d_LW_law_3 rfl ?_
  refine lk_newL X hA (lk_EL_of hts) h (by decide) hl.1 (Nat.le_of_ble_eq_true rfl) d_LW_law_4 (by decide) (fun u H locs hu h => ?_)
  refine lv_astore_n hx hb d_LW_law_7 rfl hl (by decide) rfl (fun ls hl => ?_)
  have hl : lv_has ls 7 [(1, .ref q), (0, .ref b)] := hl
  refine in_newO (ci := 4) (fs := lk_mo0) X rfl h hA gl_MO ty_MO_ok ⟨gk_LW_41, ga_MO, gn_MO⟩ rfl lk_fsM (by decide) (by decide) d_LW_law_8 (fun q2 H h => ?_)
  refine lv_dup hx hb d_LW_law_11 rfl ?_
  refine lk_newM X hA h (by decide) hl.1 (Nat.le_of_ble_eq_true rfl) d_LW_law_12 (by decide) (fun w H locs hw h => ?_)
  refine lv_astore_n hx hb d_LW_law_15 rfl hl (by decide) rfl (fun ls hl => ?_)
  have hl : lv_has ls 7 [(2, .ref q2), (1, .ref q), (0, .ref b)] := hl
  refine lv_iconst (v := nI 1) hx hb d_LW_law_16 (by decide) ?_
  refine in_newJ X h hA (N := 1) (by decide) (by decide) (by decide) d_LW_law_17 (fun q3 H h => ?_)
  obtain ⟨adC, a0, a88, J⟩ := lk_J0 h
  refine lv_astore_n hx hb d_LW_law_19 rfl hl (by decide) rfl (fun ls hl => ?_)
  have hl : lv_has ls 7 [(3, .ref q3), (2, .ref q2), (1, .ref q), (0, .ref b)] := hl
  refine lv_iconst (v := nI 0) hx hb d_LW_law_20 (by decide) ?_
  refine lv_istore hx hb d_LW_law_21 hl (by decide) rfl (fun ls hl => ?_)
  have hl : lv_has ls 7 [(4, .int (nI 0)), (3, .ref q3), (2, .ref q2), (1, .ref q), (0, .ref b)] := hl
  refine lk_loop (adC := adC) (adM := w) hl0 LX (fun q z => z) 513 0 rfl cc_I (mm_I 24) H locs ls _ _ J lk_SX_I lk_Inv_I ?_ (by decide) (by decide)
  refine ⟨hl.1, hl.2.1, fun z hz => hl.2.2 z ?_⟩
  unfold lk_LV at hz
  rw [a0, hu, hw, a88] at hz
  simp only [List.mem_cons, List.not_mem_nil, or_false] at hz ⊢
  rcases hz with hz | hz | hz | hz | hz
  · exact Or.inl hz
  · exact Or.inr (Or.inr (Or.inr (Or.inr hz)))
  · exact Or.inr (Or.inr (Or.inr (Or.inl hz)))
  · exact Or.inr (Or.inr (Or.inl hz))
  · exact Or.inr (Or.inl hz)
set_option maxHeartbeats 4000000 in
theorem lw_walk (l : Launch) (hl0 : l.stackTraces = false) (b : Addr) (xs : List Int32) : MetFree l x (headSpec (Jvm.Cond.code x code maxLocals ret :: tables_1) room_1) (lw_P b xs) (fun _ _ _ _ _ => True) lw_Q := by
  refine MetFree.of_bodyS (code := code) (maxLocals := maxLocals) (ret := ret) (by decide) ?_ ?_
  · intro args s m h hn
    obtain ⟨meth, c, h1, h2, h3, h4, h5, h6, -, -⟩ := Cond.code_spec hn (atoms_spec (ws := Jvm.Cond.code x code maxLocals ret :: tables_1) h _ List.mem_cons_self)
    exact ⟨meth, c, h1, h2, h3, h4, h5, h6⟩
  · intro p e s m args below meth c s₁ B hml0 hP _
    obtain ⟨rfl, hx, hbd, hgv⟩ := hP
    obtain ⟨scr, harrAt, hlist, hof, hsmall⟩ := hx
    obtain ⟨hcb, hkn, -, -⟩ := State.arrayAt?_spec harrAt
    have hown : s.vm.findClass R_law = some m.cls := findClass_of_methodNamed B.named
    have hts0 : ∀ c ∈ (Jvm.Cond.code x code maxLocals ret :: tables_1), c.before #[Value.ref b] s = true := atoms_spec (ws := Jvm.Cond.code x code maxLocals ret :: tables_1) B.pre
    have hts : ∀ w ∈ lw_tbl, w.before #[Value.ref b] s = true := k2_hts_sels lw_privs (fun w hw => hts0 w (List.mem_cons_of_mem _ hw)) lw_privs_ok
    have hml : c.maxLocals = 7 := B.maxLocals_eq (hts0 _ List.mem_cons_self)
    have X₀ : Stand p l e room_1 s m #[Value.ref b] below meth c s₁ [] 0 0 := Stand.of_body B
    have hh0 : s₁.heap = s.heap := by rw [B.state]; rfl
    have hsz : scr.slots.size = xs.length := by rw [← Array.length_toList, hlist, List.length_map]
    have hval : ∀ j : Nat, j < xs.length → scr.slots[j]? = some (.int (xs.getD j 0)) := fun j hj => by
      rw [← Array.getElem?_toList, hlist]
      simp [hj]
    have hbl : b < s.heap.size := (Array.getElem?_eq_some_iff.mp hcb).1
    have hX : va_X b xs.length (fun j => xs.getD j 0) s s.heap := ⟨scr, hcb, hof, hkn, hsz, hval⟩
    have K : W p l e room_1 s m #[Value.ref b] below meth c s₁.heap [] 0 0 (lw_Z below #[Value.ref b] s) (entryFrame m ([Value.ref b] : List Value).toArray 7) := by
      rw [hh0]
      exact whole_start l hl0 hbd ⟨B.exec, B.bytes, B.returns, hml, hown, hts, hX, hbl, B.notSynchronized, hgv⟩
    obtain ⟨t, a1, o, b1, b2, b3⟩ := K s₁ rfl X₀
    exact ⟨t, o, a1, b1, b2, b3⟩
theorem lw_pre_spec {args : Array Value} {s : State} (h : (Jvm.Cond.and given_1 narrow_1).before args s = true) (hr : rest_1_c.before args s = true) : ∃ (b : Addr) (xs : List Int32), lw_P b xs args s := by
  have hs := flat_of_before _ h
  have hq := flat_of_before _ hr
  have hc : (Cond.count 1).before args s = true := hs _ (by decide +kernel)
  have harr : (Cond.arrayOf (.arg 0) .int).before args s = true := hs _ (by decide +kernel)
  have hle : (Cond.le (.length (.arg 0)) (.int 2560)).before args s = true := hs _ (by decide +kernel)
  have hlen : (Cond.isInt (.length (.arg 0))).before args s = true := hq _ (by decide +kernel)
  have hall : (Cond.all (.arg 0) (.isInt (.elem (.arg 0) (.index 0)))).before args s = true := hq _ (by decide +kernel)
  obtain ⟨b, xs, hb, hx⟩ := State.ints_of_pre rfl harr hlen hall
  have hsm : xs.length < 2 ^ 31 := hx.choose_spec.2.2.2
  have hev : (Term.length (.arg 0)).eval args s none [] s = some (.int xs.length.toInt32) := hx.length_eval hb
  have hv := Cond.le_ints hev (show (Term.int 2560).eval args s none [] s = some (.int 2560) from rfl)
  have hd : xs.length.toInt32 ≤ 2560 := by
    simpa [Cond.before, Cond.holds, hv] using hle
  have hN : xs.length ≤ 2560 := (Int32.ofNat_le_ofNat hsm (by decide)).mp (show Int32.ofNat xs.length ≤ Int32.ofNat 2560 from hd)
  exact ⟨b, xs, Cond.one_arg hc (show args[0]? = some (.ref b) from hb), hx, hN, h⟩
theorem lw_comes (l : Launch) (hl0 : l.stackTraces = false) : Comes l x (Jvm.Cond.code x code maxLocals ret :: tables_1) room_1 (fun tb e args s => Calls_1 tb e args s ∧ rest_1 tb e args s ∧ Pre_1 tb e args s)
    (fun _ _ args s o t => lw_Q args s o t) := by
  intro p e ha hc hk s m args below hf hfit hheap happ hpre
  obtain ⟨b, xs, hP⟩ := lw_pre_spec hpre.2.2 hpre.2.1
  obtain ⟨k, o, h1, h2, h3, hQ⟩ := lw_walk l hl0 b xs p e ha hc hk s m args below hf ((Spec.applies_iff_loose hf).mp happ).1 hP trivial
  exact ⟨k, o, h1, h2, h3, hQ⟩
theorem lw_frame {s t : State} {o : Outcome} {args : Array Value} (h : Framed s o t [] 614326 7253127) :
    Framed s o t (fieldLocs frame_1_writes args s ++ arrayLocs frame_1_arrays args s ++ staticLocs frame_1_statics s) 614326 7253127 := h
theorem lw_limb (L : Cond) (hL : ∀ (args : Array Value) (s t : State), L.after args s (.returned (some (.int 1))) t = true) :
    ArmFor flags0 classFile x code maxLocals ret World_1 tables_1 room_1 Calls_1 rest_1 Pre_1
      (fun tb e a s o t => postC L tb e a s o t ∧ Framed s o t (fieldLocs frame_1_writes a s ++ arrayLocs frame_1_arrays a s ++ staticLocs frame_1_statics s) 614326 7253127) := by
  intro l hfl _ _ p e ha hc hk s m args below hf hfit hheap happ hpre
  obtain ⟨k, o, h1, h2, h3, rfl, hF⟩ := lw_comes l (by unfold Launch.stackTraces; rw [hfl]; decide) p e ha hc hk s m args below hf hfit hheap happ hpre
  exact ⟨k, _, h1, h2, h3, hL args s _, lw_frame hF⟩
theorem i_vc : Claimed_1_1 ∧ Claimed_1_2 := ⟨lw_limb limb_1_1 (fun args s t => by simp [limb_1_1, Cond.after, Cond.holds, Cond.value]), lw_limb limb_1_2 (fun args s t => Cond.after_iff.mpr (by
  first | (rw [show limb_1_2 = Cond.eq .result (.int 1) from rfl, Cond.eq_ints (x := 1) (y := 1) rfl rfl]; simp; done) | (simp [limb_1_2, Cond.value, Term.eval]; done)))⟩

