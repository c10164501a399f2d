/-- the class's memory before its first node comes into being -/
def cc_Z : lk_M := fun f i => if f = 0 then (if i = 24 then 2 else 0) else if f = 4 ∨ f = 6 then -1 else if f = 11 then 1 else 0
def lk_gi (k : Nat) : Nat := if k < 2 then k else if k = 2 then 77 else if k < 5 then 83 + k else if k < 30 then 2 + 3 * (k - 5) else if k < 55 then 3 + 3 * (k - 30) else if k < 80 then 4 + 3 * (k - 55) else if k < 84 then 78 + 2 * (k - 80) else 79 + 2 * (k - 84)
theorem lk_gi_inj : ∀ i, i < 88 → ∀ j, j < 88 → lk_gi i = lk_gi j → i = j := by decide +kernel
def lk_ai (a a1 a3 a4 a5 : Nat) (n k z t w : Nat → Nat) (i : Nat) : Nat := if i = 0 then a else if i = 1 then a1 else if i = 2 then a3 else if i = 3 then a4 else if i = 4 then a5 else if i < 30 then n (i - 5) else if i < 55 then k (i - 30) else if i < 80 then z (i - 55) else if i < 84 then t (i - 80) else w (i - 84)
section Ai
variable {a a1 a3 a4 a5 : Nat} {n k z t w : Nat → Nat} {p : Nat}
theorem lk_ai_n (h : p < 25) : lk_ai a a1 a3 a4 a5 n k z t w (5 + p) = n p := by
  unfold lk_ai
  rw [if_neg (by omega), if_neg (by omega), if_neg (by omega), if_neg (by omega), if_neg (by omega), if_pos (by omega), show 5 + p - 5 = p by omega]
theorem lk_ai_k (h : p < 25) : lk_ai a a1 a3 a4 a5 n k z t w (30 + p) = k p := by
  unfold lk_ai
  rw [if_neg (by omega), if_neg (by omega), if_neg (by omega), if_neg (by omega), if_neg (by omega), if_neg (by omega), if_pos (by omega), show 30 + p - 30 = p by omega]
theorem lk_ai_z (h : p < 25) : lk_ai a a1 a3 a4 a5 n k z t w (55 + p) = z p := by
  unfold lk_ai
  rw [if_neg (by omega), if_neg (by omega), if_neg (by omega), if_neg (by omega), if_neg (by omega), if_neg (by omega), if_neg (by omega), if_pos (by omega), show 55 + p - 55 = p by omega]
theorem lk_ai_t (h : p < 4) : lk_ai a a1 a3 a4 a5 n k z t w (80 + p) = t p := by
  unfold lk_ai
  rw [if_neg (by omega), if_neg (by omega), if_neg (by omega), if_neg (by omega), if_neg (by omega), if_neg (by omega), if_neg (by omega), if_neg (by omega), if_pos (by omega), show 80 + p - 80 = p by omega]
theorem lk_ai_w (h : p < 4) : lk_ai a a1 a3 a4 a5 n k z t w (84 + p) = w p := by
  unfold lk_ai
  rw [if_neg (by omega), if_neg (by omega), if_neg (by omega), if_neg (by omega), if_neg (by omega), if_neg (by omega), if_neg (by omega), if_neg (by omega), if_neg (by omega), show 84 + p - 84 = p by omega]
end Ai
theorem lk_arrV_congr {c : ClassId} {N : Nat} {f g : Nat → Value} (h : ∀ j, j < N → f j = g j) : arrV c N f = arrV c N g := by
  unfold arrV
  congr 1
  congr 1
  funext j
  exact h j.val j.2
theorem lk_Z_t5 (f p : Nat) (hf : f = 7 ∨ f = 8) : lk_t5 (cc_Z f) p = fun _ => 0 := by
  funext j
  unfold lk_t5 cc_Z
  rcases hf with rfl | rfl <;> simp
theorem lk_Z_t25 (p : Nat) : lk_t25 (cc_Z 19) p = fun _ => 0 := by
  funext j
  unfold lk_t25 cc_Z
  simp
theorem lk_ap4 {α : Type} {xs ys : List α} {j : Nat} (h : xs.length = 4) : (xs ++ ys)[4 + j]? = ys[j]? := by
  rw [List.getElem?_append_right (by omega), h, show 4 + j - 4 = j by omega]
/-- the world as the constructor has made it, and the same by its numbers -/
theorem lk_fin {D : va_G} {τ : Nat → ClassId} {A : Nat → Prop} {H0 H : Heap} {locs : List Loc} {a a1 a2 a3 a4 a5 u1 u2 : Nat} {n k z t w : Nat → Nat}
    (h : lk_H D lk_cl A H0 ((a, lk_lt (.ref a1) (.ref a2) (.ref a3) (.ref a4)) :: (a1, lk_qa (τ 2) 24 n 24) :: (lk_nl τ n k z 24 ++ ([(a2, .inr (1, (lk_nd1 (-1) u1 u2).set 4 (.int 2))), (u1, lk_ar τ 5), (u2, lk_ar τ 5), (a3, lk_qa (τ 3) 4 t 4)] ++ (lk_tl τ t w 4 ++ [(a4, .inr (3, [.ref a5, .int 0])), (a5, lk_ar τ 12)])))) H locs) :
    ∃ ad : Nat → Nat, ad 0 = a ∧ lk_H D lk_cl A H0 (lk_w 88 ad (lk_ce τ ad cc_Z)) H locs := by
  obtain ⟨F, hF⟩ : ∃ F : va_W, F = ((a, lk_lt (.ref a1) (.ref a2) (.ref a3) (.ref a4)) :: (a1, lk_qa (τ 2) 24 n 24) :: (lk_nl τ n k z 24 ++ ([(a2, .inr (1, (lk_nd1 (-1) u1 u2).set 4 (.int 2))), (u1, lk_ar τ 5), (u2, lk_ar τ 5), (a3, lk_qa (τ 3) 4 t 4)] ++ (lk_tl τ t w 4 ++ [(a4, .inr (3, [.ref a5, .int 0])), (a5, lk_ar τ 12)])))) := ⟨_, rfl⟩
  rw [← hF] at h
  obtain ⟨ad, had⟩ : ∃ ad : Nat → Nat, ad = lk_ai a a1 a3 a4 a5 (va_up n 24 a2) (va_up k 24 u1) (va_up z 24 u2) t w := ⟨_, rfl⟩
  have hn : ∀ p, p < 25 → ad (5 + p) = va_up n 24 a2 p := fun p hp => by rw [had, lk_ai_n hp]
  have hk : ∀ p, p < 25 → ad (30 + p) = va_up k 24 u1 p := fun p hp => by rw [had, lk_ai_k hp]
  have hz : ∀ p, p < 25 → ad (55 + p) = va_up z 24 u2 p := fun p hp => by rw [had, lk_ai_z hp]
  have ht : ∀ p, p < 4 → ad (80 + p) = t p := fun p hp => by rw [had, lk_ai_t hp]
  have hw : ∀ p, p < 4 → ad (84 + p) = w p := fun p hp => by rw [had, lk_ai_w hp]
  have h0 : ad 0 = a := by rw [had]; rfl
  have h1 : ad 1 = a1 := by rw [had]; rfl
  have h2 : ad 2 = a3 := by rw [had]; rfl
  have h3 : ad 3 = a4 := by rw [had]; rfl
  have h4 : ad 4 = a5 := by rw [had]; rfl
  have h29 : ad 29 = a2 := by rw [show (29 : Nat) = 5 + 24 from rfl, hn 24 (by decide), va_up_self]
  have hl := lk_nl_len τ n k z 24
  have hl2 := lk_tl_len τ t w 4
  -- places of the list
  have gR : ∀ j, F[74 + j]? = ([(a2, .inr (1, (lk_nd1 (-1) u1 u2).set 4 (.int 2))), (u1, lk_ar τ 5), (u2, lk_ar τ 5), (a3, lk_qa (τ 3) 4 t 4)] ++ (lk_tl τ t w 4 ++ [(a4, .inr (3, [.ref a5, .int 0])), (a5, lk_ar τ 12)]))[j]? := by
    intro j
    rw [hF, show 74 + j = (72 + j) + 1 + 1 by omega, List.getElem?_cons_succ, List.getElem?_cons_succ, List.getElem?_append_right (by omega), hl, show 72 + j - 3 * 24 = j by omega]
  have gT : ∀ j, F[78 + j]? = (lk_tl τ t w 4 ++ [(a4, .inr (3, [.ref a5, .int 0])), (a5, lk_ar τ 12)])[j]? := by
    intro j
    rw [show 78 + j = 74 + (4 + j) by omega, gR]
    exact lk_ap4 rfl
  have key : ∀ i, i < 88 → ∃ e, F[lk_gi i]? = some (ad i, e) ∧ (va_at D lk_cl (ad i, e) H → va_at D lk_cl (ad i, lk_ce τ ad cc_Z i) H) := by
    intro i hi
    rcases lk_ce_cases hi with rfl | rfl | rfl | rfl | rfl | ⟨p, hp, rfl⟩ | ⟨p, hp, rfl⟩ | ⟨p, hp, rfl⟩ | ⟨p, hp, rfl⟩ | ⟨p, hp, rfl⟩
    · refine ⟨lk_lt (.ref a1) (.ref a2) (.ref a3) (.ref a4), by rw [hF, h0]; rfl, fun x => ?_⟩
      have e : lk_ce τ ad cc_Z 0 = lk_lt (.ref a1) (.ref a2) (.ref a3) (.ref a4) := by
        show (Sum.inr (0, lk_lf ad cc_Z) : va_E) = _
        unfold lk_lf lk_lt
        rw [h1, h2, h3, h29]
        rfl
      rw [e]; exact x
    · refine ⟨lk_qa (τ 2) 24 n 24, by rw [hF, h1]; rfl, fun x => ?_⟩
      have e : vp_cell (τ 2) (24, .inr (.inr (.inr (.inr (fun j => some (ad (5 + j))))))) = vp_cell (τ 2) (24, .inr (.inr (.inr (.inr (fun j => if j < 24 then some (n j) else none))))) := by
        rw [vp_cell_q, vp_cell_q]
        apply lk_arrV_congr
        intro j hj
        rw [if_pos hj, hn j (by omega), va_up_ne _ _ (by omega)]
      show H[ad 1]? = some (vp_cell (τ 2) (24, .inr (.inr (.inr (.inr (fun j => some (ad (5 + j))))))))
      rw [e]; exact x
    · refine ⟨lk_qa (τ 3) 4 t 4, by rw [show lk_gi 2 = 74 + 3 from rfl, gR, h2]; rfl, fun x => ?_⟩
      have e : vp_cell (τ 3) (4, .inr (.inr (.inr (.inr (fun j => some (ad (80 + j))))))) = vp_cell (τ 3) (4, .inr (.inr (.inr (.inr (fun j => if j < 4 then some (t j) else none))))) := by
        rw [vp_cell_q, vp_cell_q]
        apply lk_arrV_congr
        intro j hj
        rw [if_pos hj, ht j hj]
      show H[ad 2]? = some (vp_cell (τ 3) (4, .inr (.inr (.inr (.inr (fun j => some (ad (80 + j))))))))
      rw [e]; exact x
    · refine ⟨.inr (3, [.ref a5, .int 0]), by rw [show lk_gi 3 = 78 + 8 from rfl, gT, List.getElem?_append_right (by omega), hl2, h3]; rfl, fun x => ?_⟩
      have e : lk_ce τ ad cc_Z 3 = .inr (3, [.ref a5, .int 0]) := by
        show (Sum.inr (3, lk_sf ad cc_Z) : va_E) = _
        unfold lk_sf
        rw [h4]
        rfl
      rw [e]; exact x
    · refine ⟨lk_ar τ 12, by rw [show lk_gi 4 = 78 + 9 from rfl, gT, List.getElem?_append_right (by omega), hl2, h4]; rfl, fun x => x⟩
    · have hg : lk_gi (5 + p) = 2 + 3 * p := by
        unfold lk_gi
        rw [if_neg (by omega), if_neg (by omega), if_neg (by omega), if_pos (by omega), show 5 + p - 5 = p by omega]
      rw [hg, lk_ce_n hp, hn p hp]
      by_cases e24 : p = 24
      · subst e24
        refine ⟨.inr (1, (lk_nd1 (-1) u1 u2).set 4 (.int 2)), by rw [show 2 + 3 * 24 = 74 + 0 from rfl, gR, va_up_self]; rfl, fun x => ?_⟩
        have e : lk_nf ad cc_Z 24 = (lk_nd1 (-1) u1 u2).set 4 (.int 2) := by
          unfold lk_nf
          rw [hk 24 hp, hz 24 hp, va_up_self, va_up_self]
          rfl
        rw [e]; exact x
      · obtain ⟨g1, -, -⟩ := lk_nl_get (τ := τ) (n := n) (k := k) (s := z) (p := p) 24 (by omega)
        refine ⟨.inr (1, lk_nd1 (lk_num p) (k p) (z p)), ?_, fun x => ?_⟩
        · rw [hF, show 2 + 3 * p = 3 * p + 1 + 1 by omega, List.getElem?_cons_succ, List.getElem?_cons_succ, List.getElem?_append_left (by omega), g1, va_up_ne _ _ e24]
        · have e : lk_nf ad cc_Z p = lk_nd1 (lk_num p) (k p) (z p) := by
            unfold lk_nf
            rw [hk p hp, hz p hp, va_up_ne _ _ e24, va_up_ne _ _ e24]
            simp [cc_Z, lk_nd1, e24]
          rw [e]; exact x
    · have hg : lk_gi (30 + p) = 3 + 3 * p := by
        unfold lk_gi
        rw [if_neg (by omega), if_neg (by omega), if_neg (by omega), if_neg (by omega), if_pos (by omega), show 30 + p - 30 = p by omega]
      rw [hg, lk_ce_k hp, lk_Z_t5 7 p (Or.inl rfl), hk p hp]
      by_cases e24 : p = 24
      · subst e24
        exact ⟨lk_ar τ 5, by rw [show 3 + 3 * 24 = 74 + 1 from rfl, gR, va_up_self]; rfl, fun x => x⟩
      · obtain ⟨-, g1, -⟩ := lk_nl_get (τ := τ) (n := n) (k := k) (s := z) (p := p) 24 (by omega)
        refine ⟨lk_ar τ 5, ?_, fun x => x⟩
        rw [hF, show 3 + 3 * p = 3 * p + 1 + 1 + 1 by omega, List.getElem?_cons_succ, List.getElem?_cons_succ, List.getElem?_append_left (by omega), g1, va_up_ne _ _ e24]
    · have hg : lk_gi (55 + p) = 4 + 3 * p := by
        unfold lk_gi
        rw [if_neg (by omega), if_neg (by omega), if_neg (by omega), if_neg (by omega), if_neg (by omega), if_pos (by omega), show 55 + p - 55 = p by omega]
      rw [hg, lk_ce_s hp, lk_Z_t5 8 p (Or.inr rfl), hz p hp]
      by_cases e24 : p = 24
      · subst e24
        exact ⟨lk_ar τ 5, by rw [show 4 + 3 * 24 = 74 + 2 from rfl, gR, va_up_self]; rfl, fun x => x⟩
      · obtain ⟨-, -, g1⟩ := lk_nl_get (τ := τ) (n := n) (k := k) (s := z) (p := p) 24 (by omega)
        refine ⟨lk_ar τ 5, ?_, fun x => x⟩
        rw [hF, show 4 + 3 * p = 3 * p + 2 + 1 + 1 by omega, List.getElem?_cons_succ, List.getElem?_cons_succ, List.getElem?_append_left (by omega), g1, va_up_ne _ _ e24]
    · have hg : lk_gi (80 + p) = 78 + 2 * p := by
        unfold lk_gi
        rw [if_neg (by omega), if_neg (by omega), if_neg (by omega), if_neg (by omega), if_neg (by omega), if_neg (by omega), if_pos (by omega), show 80 + p - 80 = p by omega]
      obtain ⟨g1, -⟩ := lk_tl_get (τ := τ) (t := t) (k := w) (p := p) 4 hp
      rw [hg, lk_ce_t hp, ht p hp]
      refine ⟨.inr (2, lk_ta1 (nI p) (w p)), by rw [gT, List.getElem?_append_left (by omega), g1], fun x => ?_⟩
      have e : lk_tf ad cc_Z p = lk_ta1 (nI p) (w p) := by
        unfold lk_tf
        rw [hw p hp]
        simp [cc_Z, lk_ta1]
      rw [e]; exact x
    · have hg : lk_gi (84 + p) = 78 + (2 * p + 1) := by
        unfold lk_gi
        rw [if_neg (by omega), if_neg (by omega), if_neg (by omega), if_neg (by omega), if_neg (by omega), if_neg (by omega), if_neg (by omega), show 84 + p - 84 = p by omega]
        omega
      obtain ⟨-, g1⟩ := lk_tl_get (τ := τ) (t := t) (k := w) (p := p) 4 hp
      rw [hg, lk_ce_p hp, lk_Z_t25, hw p hp]
      exact ⟨lk_ar τ 25, by rw [gT, List.getElem?_append_left (by omega), g1], fun x => x⟩
  refine ⟨ad, h0, fun i q hq => ?_, ⟨fun i j x y hx hy hxy => ?_, fun i q hq => ?_⟩, h.S⟩
  · obtain ⟨hi, rfl⟩ := lk_w_lt hq
    obtain ⟨e, g1, g2⟩ := key i hi
    exact g2 (h.P _ _ g1)
  · obtain ⟨hi, rfl⟩ := lk_w_lt hx
    obtain ⟨hj, rfl⟩ := lk_w_lt hy
    obtain ⟨e, g1, -⟩ := key i hi
    obtain ⟨e', g2, -⟩ := key j hj
    exact lk_gi_inj i hi j hj (h.D.1 _ _ _ _ g1 g2 hxy)
  · obtain ⟨hi, rfl⟩ := lk_w_lt hq
    obtain ⟨e, g1, -⟩ := key i hi
    exact h.D.2 (lk_gi i) (ad i, e) g1
