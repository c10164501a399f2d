/-! the tree after a step -/
theorem lk_zi_n {M : lk_M} {p n : Nat} (h5 : M 5 p = nI n) (hn : n ≤ 5) : lk_zi M 5 p = (n : Int) := (lk_z _ n (by omega)).mpr h5
theorem lk_ins_z {M : lk_M} {p j n f : Nat} {a b : Int32} (h5 : f ≠ 5) (h7 : f ≠ 7) (h8 : f ≠ 8) : lk_zi (lk_ins M p j n a b) f = lk_zi M f := by
  funext x; unfold lk_zi; rw [lk_ins_f h5 h7 h8]
theorem lk_ins_n {M : lk_M} {p j n : Nat} {a b : Int32} (h5 : M 5 p = nI n) (hn : n ≤ 4) (x : Nat) : lk_zi (lk_ins M p j n a b) 5 x = if x = p then lk_zi M 5 p + 1 else lk_zi M 5 x := by
  show (lk_ins M p j n a b 5 x).toInt = _
  rw [lk_ins_5]
  by_cases e : x = p
  · rw [if_pos e, if_pos e, nI_toInt (by omega), lk_zi_n h5 (by omega)]
    omega
  · rw [if_neg e, if_neg e]; rfl
theorem lk_ins_TR {M : lk_M} {rt p n j : Nat} {k v : Int32} (h : lk_TR M rt) (hp : p < 24) (kp : M 0 p = 1) (l0 : M 1 p = 0) (h5 : M 5 p = nI n) (hn : n ≤ 4) (hj : j ≤ n) (k1 : (M 2 p).toInt < k.toInt) (k2 : k.toInt ≤ (M 3 p).toInt) (lt : ∀ i, i < j → (M 7 (5 * p + i)).toInt < k.toInt) (gt : j < n → k.toInt < (M 7 (5 * p + j)).toInt) : lk_TR (lk_ins M p j n k v) rt := by
  have N5 := lk_zi_n h5 (by omega)
  unfold lk_TR
  rw [lk_ins_z (f := 0) (by decide) (by decide) (by decide), lk_ins_z (f := 1) (by decide) (by decide) (by decide), lk_ins_z (f := 2) (by decide) (by decide) (by decide), lk_ins_z (f := 3) (by decide) (by decide) (by decide), lk_ins_z (f := 4) (by decide) (by decide) (by decide)]
  have hN := lk_ins_n (j := j) (a := k) (b := v) h5 hn
  have i5 : ∀ x, x < 24 → lk_zi M 0 x = 1 → ∀ i : Nat, (i : Int) < lk_zi (lk_ins M p j n k v) 5 x → i < 5 := fun x hx kx i hi => by
    rw [hN] at hi
    by_cases e : x = p
    · rw [if_pos e] at hi; omega
    · rw [if_neg e] at hi; exact lk_n5 h hx kx hi
  refine lk_tr_ins (p := p) (j := j) (k := k.toInt) h hp (lk_z1.mpr kp) ((lk_z _ 0 (by decide)).mpr l0) (by omega) (by omega) k1 k2 lt (fun z => gt (by omega)) (fun x _ => hN x) (fun x hx kx i hi => ?_) (fun x hx kx e i hi => ?_)
  · have h5i := i5 x hx kx i hi
    show (lk_ins M p j n k v 7 (5 * x + i)).toInt = _
    rw [lk_ins_7 hn hj h5i]
    by_cases e : x = p
    · subst e
      rw [if_pos rfl, if_pos rfl]
      rw [hN, if_pos rfl] at hi
      by_cases c1 : i < j
      · rw [if_pos c1, if_pos c1]; rfl
      · rw [if_neg c1, if_neg c1]
        by_cases c2 : i = j
        · rw [if_pos c2, if_pos c2]
        · rw [if_neg c2, if_neg c2, if_pos (by omega)]; rfl
    · rw [if_neg e, if_neg e]; rfl
  · have h5i := lk_n5 h hx kx hi
    show (lk_ins M p j n k v 8 (5 * x + i)).toInt = _
    rw [lk_ins_8 hn hj h5i, if_neg e]; rfl
/-- another value in a leaf -/
theorem lk_val_TR {M : lk_M} {rt p j : Nat} {v : Int32} (h : lk_TR M rt) (hp : p < 24) (l0 : M 1 p = 0) (hj : j < 5) : lk_TR (lk_st M 8 (5 * p + j) v) rt := by
  have e : ∀ f, f ≠ 8 → lk_st M 8 (5 * p + j) v f = M f := fun f hf => lk_st_fn hf
  obtain ⟨h1, h2, h3, h4, h5, h6, h7⟩ := id h
  have e8 : ∀ x i : Nat, x < 24 → lk_zi M 0 x = 1 → 0 < lk_zi M 1 x → (i : Int) < lk_zi M 5 x → lk_zf (lk_st M 8 (5 * p + j) v) 8 x i = lk_zf M 8 x i := fun x i hx kx lx hi => by
    have i5 := lk_n5 h hx kx hi
    have : x ≠ p := fun z => by
      subst z
      have : lk_zi M 1 x = 0 := (lk_z _ 0 (by decide)).mpr l0
      omega
    show (lk_st M 8 (5 * p + j) v 8 (5 * x + i)).toInt = _
    rw [lk_st_p (by omega)]; rfl
  unfold lk_TR
  have z : ∀ f, f ≠ 8 → lk_zi (lk_st M 8 (5 * p + j) v) f = lk_zi M f := fun f hf => by unfold lk_zi; rw [e f hf]
  have z7 : lk_zf (lk_st M 8 (5 * p + j) v) 7 = lk_zf M 7 := by unfold lk_zf; rw [e 7 (by decide)]
  rw [z 0 (by decide), z 1 (by decide), z 2 (by decide), z 3 (by decide), z 4 (by decide), z 5 (by decide), z7]
  refine ⟨h1, h2, h3, h4, fun x hx kx lx i hi => ?_, h6, h7⟩
  obtain ⟨c, c1, c2, c3⟩ := h5 x hx kx lx i hi
  exact ⟨c, c1, by rw [e8 x i hx kx lx hi]; exact c2, c3⟩
/-- a page is posted -/
def lk_pt (M : lk_M) (p j n q : Nat) (k : Int32) : lk_M := lk_st (lk_ins M p j n k (M 8 (5 * p + j))) 8 (5 * p + j + 1) (nI q)
theorem lk_pt_f {M : lk_M} {p j n q f i : Nat} {k : Int32} (h5 : f ≠ 5) (h7 : f ≠ 7) (h8 : f ≠ 8) : lk_pt M p j n q k f i = M f i := (lk_st_f h8).trans (lk_ins_f h5 h7 h8)
theorem lk_pt_z {M : lk_M} {p j n q f : Nat} {k : Int32} (h5 : f ≠ 5) (h7 : f ≠ 7) (h8 : f ≠ 8) : lk_zi (lk_pt M p j n q k) f = lk_zi M f := by
  funext x; unfold lk_zi; rw [lk_pt_f h5 h7 h8]
theorem lk_pt_n {M : lk_M} {p j n q : Nat} {k : Int32} (h5 : M 5 p = nI n) (hn : n ≤ 4) (x : Nat) : lk_zi (lk_pt M p j n q k) 5 x = if x = p then lk_zi M 5 p + 1 else lk_zi M 5 x := by
  rw [← lk_ins_n (j := j) (a := k) (b := M 8 (5 * p + j)) h5 hn]
  unfold lk_zi lk_pt
  rw [lk_st_f (by decide)]
theorem lk_pt_8 {M : lk_M} {p j n q x i : Nat} {k : Int32} (hn : n ≤ 4) (hj : j < n) (hi : i < 5) : lk_pt M p j n q k 8 (5 * x + i) = if x = p then (if i ≤ j then M 8 (5 * p + i) else if i = j + 1 then nI q else if i ≤ n then M 8 (5 * p + (i - 1)) else M 8 (5 * p + i)) else M 8 (5 * x + i) := by
  unfold lk_pt
  rw [lk_st_eq]
  by_cases e : x = p
  · subst e
    rw [if_pos rfl]
    by_cases c : i = j + 1
    · rw [if_pos ⟨rfl, by omega⟩, if_neg (by omega), if_pos c]
    · rw [if_neg (by omega), lk_ins_8 hn (by omega) hi, if_pos rfl]
      by_cases c1 : i < j
      · rw [if_pos c1, if_pos (by omega)]
      · rw [if_neg c1]
        by_cases c2 : i = j
        · rw [if_pos c2, if_pos (by omega), c2]
        · rw [if_neg c2, if_neg (show ¬ i ≤ j by omega), if_neg c]
  · rw [if_neg (by omega), if_neg e, lk_ins_8 hn (by omega) hi, if_neg e]
theorem lk_pt_TR {M : lk_M} {rt p n j q : Nat} {k : Int32} (h : lk_TR M rt) (hp : p < 24) (kp : M 0 p = 1) (lp : 0 < (M 1 p).toInt) (h5 : M 5 p = nI n) (hn : n ≤ 4) (hj : j < n) (k1 : (M 2 p).toInt < k.toInt) (lt : ∀ i, i < j → (M 7 (5 * p + i)).toInt < k.toInt) (gt : k.toInt < (M 7 (5 * p + j)).toInt) (hq : q < 24) (kq : M 0 q = 1) (lq : (M 1 q).toInt + 1 = (M 1 p).toInt) (loq : M 2 q = k) : lk_TR (lk_pt M p j n q k) rt := by
  have N5 := lk_zi_n h5 (by omega)
  unfold lk_TR
  rw [lk_pt_z (f := 0) (by decide) (by decide) (by decide), lk_pt_z (f := 1) (by decide) (by decide) (by decide), lk_pt_z (f := 2) (by decide) (by decide) (by decide), lk_pt_z (f := 3) (by decide) (by decide) (by decide), lk_pt_z (f := 4) (by decide) (by decide) (by decide)]
  have hN := lk_pt_n (j := j) (q := q) (k := k) h5 hn
  have i5 : ∀ x, x < 24 → lk_zi M 0 x = 1 → ∀ i : Nat, (i : Int) < lk_zi (lk_pt M p j n q k) 5 x → i < 5 := fun x hx kx i hi => by
    rw [hN] at hi
    by_cases e : x = p
    · rw [if_pos e] at hi; omega
    · rw [if_neg e] at hi; exact lk_n5 h hx kx hi
  refine lk_tr_post (p := p) (j := j) (q := q) (k := k.toInt) h hp (lk_z1.mpr kp) lp (by omega) (by omega) k1 lt gt hq (lk_z1.mpr kq) lq (congrArg Int32.toInt loq) (fun x _ => hN x) (fun x hx kx i hi => ?_) (fun x hx kx i hi => ?_)
  · have h5i := i5 x hx kx i hi
    show (lk_pt M p j n q k 7 (5 * x + i)).toInt = _
    unfold lk_pt
    rw [lk_st_f (by decide), lk_ins_7 hn (by omega) h5i]
    by_cases e : x = p
    · subst e
      rw [if_pos rfl, if_pos rfl]
      rw [hN, if_pos rfl] at hi
      by_cases c1 : i < j
      · rw [if_pos c1, if_pos c1]; rfl
      · rw [if_neg c1, if_neg c1]
        by_cases c2 : i = j
        · rw [if_pos c2, if_pos c2]
        · rw [if_neg c2, if_neg c2, if_pos (by omega)]; rfl
    · rw [if_neg e, if_neg e]; rfl
  · have h5i := i5 x hx kx i hi
    show (lk_pt M p j n q k 8 (5 * x + i)).toInt = _
    rw [lk_pt_8 hn hj h5i]
    by_cases e : x = p
    · subst e
      rw [if_pos rfl, if_pos rfl]
      rw [hN, if_pos rfl] at hi
      by_cases c1 : i ≤ j
      · rw [if_pos c1, if_pos c1]; rfl
      · rw [if_neg c1, if_neg c1]
        by_cases c2 : i = j + 1
        · rw [if_pos c2, if_pos c2, nI_toInt (by omega)]
        · rw [if_neg c2, if_neg c2, if_pos (by omega)]; rfl
    · rw [if_neg e, if_neg e]; rfl
/-- why a page that is posted is to come before the entry -/
theorem lk_post_gt {M : lk_M} {rt p n q : Nat} {k : Int32} (h : lk_TR M rt) (hp : p < 24) (kp : M 0 p = 1) (lp : 0 < (M 1 p).toInt) (h5 : M 5 p = nI n) (hn : n ≤ 4) (hq : q < 24) (kq : M 0 q = 1) (lq : (M 1 q).toInt + 1 = (M 1 p).toInt) (loq : M 2 q = k) (nc : lk_nc M q) (hle : ¬ M 3 p < k) (hat : lk_at M p n k < n) : k.toInt < (M 7 (5 * p + lk_at M p n k)).toInt := by
  have N5 := lk_zi_n h5 (by omega)
  obtain ⟨h1, h2, h3, h4, h5t, h6, h7⟩ := id h
  have zp := lk_z1.mpr kp
  have zq := lk_z1.mpr kq
  have ge := lk_fr_ge (M 7) k n (5 * p) hat
  rw [Int32.lt_iff_toInt_lt] at ge hle
  generalize hj : lk_at M p n k = j at *
  have ge : ¬ (M 7 (5 * p + j)).toInt < k.toInt := by rw [← hj]; exact ge
  have loq' : lk_zi M 2 q = k.toInt := congrArg Int32.toInt loq
  by_cases c : k.toInt < (M 7 (5 * p + j)).toInt
  · exact c
  · exfalso
    have e : lk_zf M 7 p j = k.toInt := by show (M 7 (5 * p + j)).toInt = _; omega
    have lq' : lk_zi M 1 q + 1 = lk_zi M 1 p := lq
    have lp' : 0 < lk_zi M 1 p := lp
    by_cases cj : j + 1 < n
    · obtain ⟨c, c1, c2, c3, c4, c5⟩ := h5t p hp zp lp (j + 1) (by omega)
      rw [lk_lo_s, e] at c5
      have ec : c = q := lk_samelo h1 h6 c1 hq c3 zq (by omega) (by omega)
      subst ec
      exact nc p (j + 1) hp zp lp (by omega) c2
    · have hi := (h4 p hp zp lp).2 j (by omega)
      have a := h1 q hq zq
      have b := h1 p hp zp
      have hr : lk_zi M 4 p ≠ -1 := fun z => by have := b.2.2.2.2.2.2.2 z; omega
      obtain ⟨r, r1, r2, r3, r4, r5⟩ := h2 p hp zp hr
      have n1 := (h4 r r1 r3 (by omega)).1
      obtain ⟨c, c1, c2, c3, c4, c5⟩ := h5t r r1 r3 (by omega) 0 (by omega)
      rw [lk_lo_0] at c5
      have ec : c = q := lk_samelo h1 h6 c1 hq c3 zq (by omega) (by omega)
      subst ec
      exact nc r 0 r1 r3 (by omega) (by omega) c2
/-- a split -/
theorem lk_split_TR {M : lk_M} {rt t p q v : Nat} (h : lk_TR M rt) (hp : p < 24) (hq : q < 24) (kp : M 0 p = 1) (kq : M 0 q ≠ 1) (h5 : M 5 p = nI 5) (hv : M 1 p = nI v) : lk_TR (mm_split M t p q v) rt := by
  have hne : q ≠ p := fun z => kq (by rw [z]; exact kp)
  have N5 := lk_zi_n h5 (by omega)
  have i5 : ∀ x, x < 24 → lk_zi (mm_split M t p q v) 0 x = 1 → ∀ i : Nat, (i : Int) < lk_zi (mm_split M t p q v) 5 x → i < 5 ∧ (x = q → i < 2) := fun x hx kx i hi => by
    have hi : (i : Int) < (mm_split M t p q v 5 x).toInt := hi
    have kx : (mm_split M t p q v 0 x).toInt = 1 := kx
    rw [lk_split_5 hne] at hi
    rw [lk_split_0] at kx
    by_cases e : x = q
    · rw [if_pos e, nI_toInt (by decide)] at hi; omega
    · rw [if_neg e] at hi kx
      by_cases e2 : x = p
      · rw [if_pos e2, nI_toInt (by decide)] at hi; omega
      · rw [if_neg e2] at hi; exact ⟨lk_n5 h hx kx hi, fun z => absurd z e⟩
  refine lk_tr_split (p := p) (q := q) h hp hq (lk_z1.mpr kp) (fun z => kq (lk_z1.mp z)) N5 (fun x _ => ?_) (fun x _ => ?_) (fun x _ => ?_) (fun x _ => ?_) (fun x _ => ?_) (fun x _ => ?_) (fun x hx kx i hi => ?_) (fun x hx kx i hi => ?_)
  · show (mm_split M t p q v 0 x).toInt = _
    rw [lk_split_0]; by_cases e : x = q
    · rw [if_pos e, if_pos e]; rfl
    · rw [if_neg e, if_neg e]; rfl
  · show (mm_split M t p q v 1 x).toInt = _
    rw [lk_split_1]; by_cases e : x = q
    · rw [if_pos e, if_pos e, ← hv]; rfl
    · rw [if_neg e, if_neg e]; rfl
  · show (mm_split M t p q v 2 x).toInt = _
    rw [lk_split_2]; by_cases e : x = q
    · rw [if_pos e, if_pos e]; rfl
    · rw [if_neg e, if_neg e]; rfl
  · show (mm_split M t p q v 3 x).toInt = _
    rw [lk_split_3 hne]; by_cases e : x = q
    · rw [if_pos e, if_pos e]; rfl
    · rw [if_neg e, if_neg e]
      by_cases e2 : x = p
      · rw [if_pos e2, if_pos e2]; rfl
      · rw [if_neg e2, if_neg e2]; rfl
  · show (mm_split M t p q v 4 x).toInt = _
    rw [lk_split_4 hne]; by_cases e : x = q
    · rw [if_pos e, if_pos e]; rfl
    · rw [if_neg e, if_neg e]
      by_cases e2 : x = p
      · rw [if_pos e2, if_pos e2, nI_toInt (by omega)]
      · rw [if_neg e2, if_neg e2]; rfl
  · show (mm_split M t p q v 5 x).toInt = _
    rw [lk_split_5 hne]; by_cases e : x = q
    · rw [if_pos e, if_pos e]; rfl
    · rw [if_neg e, if_neg e]
      by_cases e2 : x = p
      · rw [if_pos e2, if_pos e2]; rfl
      · rw [if_neg e2, if_neg e2]; rfl
  · obtain ⟨a, b⟩ := i5 x hx kx i hi
    show (mm_split M t p q v 7 (5 * x + i)).toInt = _
    rw [lk_split_7]
    by_cases e : x = q
    · have b := b e
      subst e
      rw [if_pos rfl]
      by_cases c : i = 1
      · rw [if_pos (by omega), c]; rfl
      · rw [if_neg (by omega), if_pos (by omega), show i = 0 by omega]; rfl
    · rw [if_neg (by omega), if_neg (by omega), if_neg e]; rfl
  · obtain ⟨a, b⟩ := i5 x hx kx i hi
    show (mm_split M t p q v 8 (5 * x + i)).toInt = _
    rw [lk_split_8]
    by_cases e : x = q
    · have b := b e
      subst e
      rw [if_pos rfl]
      by_cases c : i = 1
      · rw [if_pos (by omega), c]; rfl
      · rw [if_neg (by omega), if_pos (by omega), show i = 0 by omega]; rfl
    · rw [if_neg (by omega), if_neg (by omega), if_neg e]; rfl
/-- a new root -/
theorem lk_nr_TR {M : lk_M} {rt t q : Nat} (h : lk_TR M rt) (hq : q < 24) (kq : M 0 q ≠ 1) : lk_TR (lk_nr M t rt q) q := by
  have hr := (lk_root h).1
  have h22 := lk_height_free h hq (fun z => kq (lk_z1.mp z))
  have h0 := (h.1 rt hr (lk_z1.mpr (lk_root h).2.1)).1
  obtain ⟨w, hw, ew⟩ := lk_Int32_nat (x := M 1 rt) (b := 22) h0 h22
  have e1 : (M 1 rt + 1).toInt = (M 1 rt).toInt + 1 := by
    rw [ew, nI_1, nI_toInt (by omega), nI_toInt (by omega)]; omega
  have i5 : ∀ x, x < 24 → lk_zi (lk_nr M t rt q) 0 x = 1 → ∀ i : Nat, (i : Int) < lk_zi (lk_nr M t rt q) 5 x → i < 5 ∧ (x = q → i = 0) := fun x hx kx i hi => by
    have hi : (i : Int) < (lk_nr M t rt q 5 x).toInt := hi
    have kx : (lk_nr M t rt q 0 x).toInt = 1 := kx
    rw [lk_nr_5] at hi
    rw [lk_nr_0] at kx
    by_cases e : x = q
    · rw [if_pos e, nI_toInt (by decide)] at hi; omega
    · rw [if_neg e] at hi kx
      exact ⟨lk_n5 h hx kx hi, fun z => absurd z e⟩
  refine lk_tr_rise (n := q) h hq (fun z => kq (lk_z1.mp z)) (fun x _ => ?_) (fun x _ => ?_) (fun x _ => ?_) (fun x _ => ?_) (fun x _ => ?_) (fun x _ => ?_) (fun x hx kx i hi => ?_) (fun x hx kx i hi => ?_)
  · show (lk_nr M t rt q 0 x).toInt = _
    rw [lk_nr_0]; by_cases e : x = q
    · rw [if_pos e, if_pos e]; rfl
    · rw [if_neg e, if_neg e]; rfl
  · show (lk_nr M t rt q 1 x).toInt = _
    rw [lk_nr_1]; by_cases e : x = q
    · rw [if_pos e, if_pos e]; exact e1
    · rw [if_neg e, if_neg e]; rfl
  · show (lk_nr M t rt q 2 x).toInt = _
    rw [lk_nr_2]; by_cases e : x = q
    · rw [if_pos e, if_pos e]; rfl
    · rw [if_neg e, if_neg e]; rfl
  · show (lk_nr M t rt q 3 x).toInt = _
    rw [lk_nr_3]; by_cases e : x = q
    · rw [if_pos e, if_pos e]; rfl
    · rw [if_neg e, if_neg e]; rfl
  · show (lk_nr M t rt q 4 x).toInt = _
    rw [lk_nr_4]; by_cases e : x = q
    · rw [if_pos e, if_pos e]; rfl
    · rw [if_neg e, if_neg e]; rfl
  · show (lk_nr M t rt q 5 x).toInt = _
    rw [lk_nr_5]; by_cases e : x = q
    · rw [if_pos e, if_pos e]; rfl
    · rw [if_neg e, if_neg e]; rfl
  · obtain ⟨a, b⟩ := i5 x hx kx i hi
    show (lk_nr M t rt q 7 (5 * x + i)).toInt = _
    rw [lk_nr_7]
    by_cases e : x = q
    · have b := b e
      rw [if_pos (by omega), if_pos e]; rfl
    · rw [if_neg (by omega), if_neg e]; rfl
  · obtain ⟨a, b⟩ := i5 x hx kx i hi
    show (lk_nr M t rt q 8 (5 * x + i)).toInt = _
    rw [lk_nr_8]
    by_cases e : x = q
    · have b := b e
      rw [if_pos (by omega), if_pos e, nI_toInt (by omega)]
    · rw [if_neg (by omega), if_neg e]; rfl
/-- an entry goes out of a leaf -/
theorem lk_del_z {M : lk_M} {p j n f : Nat} (h5 : f ≠ 5) (h7 : f ≠ 7) (h8 : f ≠ 8) : lk_zi (lk_del M p j n) f = lk_zi M f := by
  funext x; unfold lk_zi; rw [lk_del_f h5 h7 h8]
theorem lk_del_TR {M : lk_M} {rt p n j : Nat} (h : lk_TR M rt) (hp : p < 24) (kp : M 0 p = 1) (l0 : M 1 p = 0) (h5 : M 5 p = nI n) (hn : n ≤ 4) (hj : j < n) : lk_TR (lk_del M p j n) rt := by
  have N5 := lk_zi_n h5 (by omega)
  unfold lk_TR
  rw [lk_del_z (f := 0) (by decide) (by decide) (by decide), lk_del_z (f := 1) (by decide) (by decide) (by decide), lk_del_z (f := 2) (by decide) (by decide) (by decide), lk_del_z (f := 3) (by decide) (by decide) (by decide), lk_del_z (f := 4) (by decide) (by decide) (by decide)]
  have hN : ∀ x, lk_zi (lk_del M p j n) 5 x = if x = p then lk_zi M 5 p - 1 else lk_zi M 5 x := fun x => by
    show (lk_del M p j n 5 x).toInt = _
    rw [lk_del_5]
    by_cases e : x = p
    · rw [if_pos e, if_pos e, nI_toInt (by omega), N5]; omega
    · rw [if_neg e, if_neg e]; rfl
  refine lk_tr_del (p := p) (j := j) h hp (lk_z1.mpr kp) ((lk_z _ 0 (by decide)).mpr l0) (by omega) (fun x _ => hN x) (fun x hx kx i hi => ?_) (fun x hx kx e i hi => ?_)
  · rw [hN] at hi
    have h5i : i < 5 := by
      by_cases e : x = p
      · rw [if_pos e] at hi; omega
      · rw [if_neg e] at hi; exact lk_n5 h hx kx hi
    show (lk_del M p j n 7 (5 * x + i)).toInt = _
    rw [lk_del_7 (by omega) h5i]
    by_cases e : x = p
    · subst e
      rw [if_pos rfl, if_pos rfl]
      rw [if_pos rfl] at hi
      by_cases c1 : i < j
      · rw [if_pos c1, if_pos c1]; rfl
      · rw [if_neg c1, if_neg c1, if_pos (by omega)]; rfl
    · rw [if_neg e, if_neg e]; rfl
  · have h5i := lk_n5 h hx kx hi
    show (lk_del M p j n 8 (5 * x + i)).toInt = _
    rw [lk_del_8 (by omega) h5i, if_neg e]; rfl
