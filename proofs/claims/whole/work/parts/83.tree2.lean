/-! the tree: a new root, two neighbours joined or shared, an old root that goes -/
section Tree2
variable {K L Lo Hi R N K' L' Lo' Hi' R' N' : Nat → Int} {F S F' S' : Nat → Nat → Int} {rt : Nat}
theorem lk_tr_kind (h : lk_Tr K L Lo Hi R N F S rt) (e : ∀ x, x < 24 → (K' x = 1 ↔ K x = 1)) : lk_Tr K' L Lo Hi R N F S rt := by
  obtain ⟨h1, h2, h3, h4, h5, h6, h7⟩ := h
  refine ⟨fun x hx kx => h1 x hx ((e x hx).mp kx), fun x hx kx rx => ?_, fun x hx kx => h3 x hx ((e x hx).mp kx), fun x hx kx => h4 x hx ((e x hx).mp kx), fun x hx kx lx i hi => ?_, fun x y hx hy kx ky => h6 x y hx hy ((e x hx).mp kx) ((e y hy).mp ky), h7.1, (e rt h7.1).mpr h7.2.1, h7.2.2⟩
  · obtain ⟨r, r1, r2, r3, r4⟩ := h2 x hx ((e x hx).mp kx) rx
    exact ⟨r, r1, r2, (e r r1).mpr r3, r4⟩
  · obtain ⟨c, c1, c2, c3, c4⟩ := h5 x hx ((e x hx).mp kx) lx i hi
    exact ⟨c, c1, c2, (e c c1).mpr c3, c4⟩
/-- a new root over the old one -/
theorem lk_tr_rise {n : Nat} (h : lk_Tr K L Lo Hi R N F S rt) (hn : n < 24) (kn : K n ≠ 1)
    (eK : ∀ x, x < 24 → K' x = if x = n then 1 else K x) (eL : ∀ x, x < 24 → L' x = if x = n then L rt + 1 else L x)
    (eLo : ∀ x, x < 24 → Lo' x = if x = n then -1 else Lo x) (eHi : ∀ x, x < 24 → Hi' x = if x = n then 999 else Hi x)
    (eR : ∀ x, x < 24 → R' x = if x = n then -1 else R x) (eN : ∀ x, x < 24 → N' x = if x = n then 1 else N x)
    (eF : ∀ x, x < 24 → K' x = 1 → ∀ i : Nat, (i : Int) < N' x → F' x i = if x = n then 999 else F x i)
    (eS : ∀ x, x < 24 → K' x = 1 → ∀ i : Nat, (i : Int) < N' x → S' x i = if x = n then (rt : Int) else S x i) : lk_Tr K' L' Lo' Hi' R' N' F' S' n := by
  obtain ⟨h1, h2, h3, h4, h5, h6, h7⟩ := h
  have nn : ∀ x, K x = 1 → x ≠ n := fun x kx e => kn (by rw [← e]; exact kx)
  have old : ∀ x, x < 24 → K' x = 1 → x ≠ n → K x = 1 := fun x hx kx e => by rw [eK x hx, if_neg e] at kx; exact kx
  have Kx : ∀ x, x < 24 → K x = 1 → K' x = 1 := fun x hx k => by rw [eK x hx, if_neg (nn x k)]; exact k
  have Kn : K' n = 1 := by rw [eK n hn, if_pos rfl]
  have Ln : L' n = L rt + 1 := by rw [eL n hn, if_pos rfl]
  have Lon : Lo' n = -1 := by rw [eLo n hn, if_pos rfl]
  have Hin : Hi' n = 999 := by rw [eHi n hn, if_pos rfl]
  have Rn : R' n = -1 := by rw [eR n hn, if_pos rfl]
  have Nn : N' n = 1 := by rw [eN n hn, if_pos rfl]
  have Lx : ∀ x, x < 24 → x ≠ n → L' x = L x := fun x hx e => by rw [eL x hx, if_neg e]
  have Lox : ∀ x, x < 24 → x ≠ n → Lo' x = Lo x := fun x hx e => by rw [eLo x hx, if_neg e]
  have Hix : ∀ x, x < 24 → x ≠ n → Hi' x = Hi x := fun x hx e => by rw [eHi x hx, if_neg e]
  have Rx : ∀ x, x < 24 → x ≠ n → R' x = R x := fun x hx e => by rw [eR x hx, if_neg e]
  have Nx : ∀ x, x < 24 → x ≠ n → N' x = N x := fun x hx e => by rw [eN x hx, if_neg e]
  have Fx : ∀ x, x < 24 → K' x = 1 → x ≠ n → ∀ i : Nat, (i : Int) < N' x → F' x i = F x i := fun x hx kx e i hi => by rw [eF x hx kx i hi, if_neg e]
  have Sx : ∀ x, x < 24 → K' x = 1 → x ≠ n → ∀ i : Nat, (i : Int) < N' x → S' x i = S x i := fun x hx kx e i hi => by rw [eS x hx kx i hi, if_neg e]
  have art := h1 rt h7.1 h7.2.1
  refine ⟨fun x hx kx => ?_, fun x hx kx rx => ?_, fun x hx kx i hi => ?_, fun x hx kx lx => ?_, fun x hx kx lx i hi => ?_, fun x y hx hy kx ky el ne => ?_, hn, Kn, Lon⟩
  · by_cases e : x = n
    · subst e
      rw [Ln, Lon, Hin, Rn, Nn]
      exact ⟨by omega, by omega, by omega, by omega, by omega, by omega, by omega, fun _ => rfl⟩
    · have ax := h1 x hx (old x hx kx e)
      rw [Lx x hx e, Lox x hx e, Hix x hx e, Rx x hx e, Nx x hx e, Ln]
      exact ⟨ax.1, by omega, ax.2.2⟩
  · by_cases e : x = n
    · subst e; exact absurd Rn rx
    · rw [Rx x hx e] at rx ⊢
      obtain ⟨r, r1, r2, r3, r4, r5⟩ := h2 x hx (old x hx kx e) rx
      have rn := nn r r3
      exact ⟨r, r1, r2, Kx r r1 r3, by rw [Lx r r1 rn, Lx x hx e]; exact r4, by rw [Lox r r1 rn, Hix x hx e]; exact r5⟩
  · by_cases e : x = n
    · subst e
      rw [eF x hx kx i hi, if_pos rfl, Lon, Hin]
      rw [Nn] at hi ⊢
      exact ⟨by omega, by omega, fun g => by omega⟩
    · have b := h3 x hx (old x hx kx e) i (by rw [← Nx x hx e]; exact hi)
      rw [Fx x hx kx e i hi, Lox x hx e, Hix x hx e]
      refine ⟨b.1, b.2.1, fun g => ?_⟩
      rw [Fx x hx kx e (i + 1) (by omega)]
      exact b.2.2 (by rw [← Nx x hx e]; exact g)
  · by_cases e : x = n
    · subst e
      refine ⟨by rw [Nn]; omega, fun i g => ?_⟩
      rw [eF x hx kx i (by omega), if_pos rfl, Hin]
    · rw [Lx x hx e] at lx
      obtain ⟨a1, a2⟩ := h4 x hx (old x hx kx e) lx
      rw [Nx x hx e, Hix x hx e]
      refine ⟨a1, fun i g => ?_⟩
      rw [Fx x hx kx e i (by rw [Nx x hx e]; omega)]
      exact a2 i g
  · by_cases e : x = n
    · subst e
      have hrn := nn rt h7.2.1
      refine ⟨rt, h7.1, by rw [eS x hx kx i hi, if_pos rfl], Kx rt h7.1 h7.2.1, by rw [Lx rt h7.1 hrn, Ln], ?_⟩
      rw [Nn] at hi
      have : i = 0 := by omega
      subst this
      rw [lk_lo_0, Lon, Lox rt h7.1 hrn]
      exact h7.2.2
    · rw [Lx x hx e] at lx
      obtain ⟨c, c1, c2, c3, c4, c5⟩ := h5 x hx (old x hx kx e) lx i (by rw [← Nx x hx e]; exact hi)
      have cn := nn c c3
      refine ⟨c, c1, by rw [Sx x hx kx e i hi]; exact c2, Kx c c1 c3, by rw [Lx c c1 cn, Lx x hx e]; exact c4, ?_⟩
      rw [Lox c c1 cn, c5]
      cases i with
      | zero => rw [lk_lo_0, lk_lo_0, Lox x hx e]
      | succ i => rw [lk_lo_s, lk_lo_s, Fx x hx kx e i (by omega)]
  · by_cases e : x = n
    · subst e
      have ey : y ≠ x := fun z => ne z.symm
      rw [Ln, Lx y hy ey] at el
      have ay := h1 y hy (old y hy ky ey)
      omega
    · by_cases e2 : y = n
      · subst e2
        rw [Ln, Lx x hx e] at el
        have ax := h1 x hx (old x hx kx e)
        omega
      · rw [Lx x hx e, Lx y hy e2] at el
        rw [Lox x hx e, Lox y hy e2, Hix x hx e, Hix y hy e2]
        exact h6 x y hx hy (old x hx kx e) (old y hy ky e2) el ne
/-- two nodes' entries, one behind the other -/
def lk_cat (G : Nat → Nat → Int) (a b na i : Nat) : Int := if i < na then G a i else G b (i - na)
theorem lk_cat_l {G : Nat → Nat → Int} {a b na i : Nat} (h : i < na) : lk_cat G a b na i = G a i := if_pos h
theorem lk_cat_r {G : Nat → Nat → Int} {a b na i : Nat} (h : ¬ i < na) : lk_cat G a b na i = G b (i - na) := if_neg h
/-- a pair: two neighbours under P, up to date in P -/
def lk_pair (K L Lo Hi N : Nat → Int) (F S : Nat → Nat → Int) (P i a b na nb : Nat) : Prop :=
  P < 24 ∧ K P = 1 ∧ 0 < L P ∧ (i : Int) + 1 < N P ∧ S P i = a ∧ S P (i + 1) = b ∧ Hi a = F P i ∧ Hi b = F P (i + 1) ∧ N a = na ∧ N b = nb ∧ a < 24 ∧ b < 24
theorem lk_pair_facts {P i a b na nb : Nat} (h : lk_Tr K L Lo Hi R N F S rt) (hh : lk_pair K L Lo Hi N F S P i a b na nb) :
    K a = 1 ∧ K b = 1 ∧ L a + 1 = L P ∧ L b + 1 = L P ∧ Lo a = lk_lo Lo F P i ∧ Lo b = Hi a ∧ a ≠ b ∧ a ≠ P ∧ b ≠ P ∧ b ≠ rt ∧ a ≠ rt ∧ Lo a < Hi a ∧ Lo b < Hi b ∧ Hi a < 999 := by
  obtain ⟨h1, h2, h3, h4, h5, h6, h7⟩ := h
  obtain ⟨hP, kP, lP, hi, sa, sb, ia, ib, hna, hnb, ha, hb⟩ := hh
  obtain ⟨c, c1, c2, c3, c4, c5⟩ := h5 P hP kP lP i (by omega)
  have ec : c = a := by omega
  subst ec
  obtain ⟨d, d1, d2, d3, d4, d5⟩ := h5 P hP kP lP (i + 1) (by omega)
  have ed : d = b := by omega
  subst ed
  rw [lk_lo_s] at d5
  have a1 := h1 c c1 c3
  have a2 := h1 d d1 d3
  have a3 := h1 P hP kP
  exact ⟨c3, d3, c4, d4, c5, by omega, fun e => by subst e; omega, fun e => by subst e; omega, fun e => by subst e; omega, fun e => by subst e; omega, fun e => by subst e; omega, a1.2.2.2.1, a2.2.2.2.1, by omega⟩
/-- the entries of a pair, one behind the other, rise -/
theorem lk_cat_in {P i a b na nb : Nat} (h : lk_Tr K L Lo Hi R N F S rt) (hh : lk_pair K L Lo Hi N F S P i a b na nb) {j : Nat} (hj : j < na + nb) :
    Lo a < lk_cat F a b na j ∧ lk_cat F a b na j ≤ Hi b ∧ (j + 1 < na + nb → lk_cat F a b na j < lk_cat F a b na (j + 1)) := by
  obtain ⟨ka, kb, la, lb, loa, lob, nab, -, -, -, -, g1, g2, -⟩ := lk_pair_facts h hh
  obtain ⟨h1, h2, h3, h4, h5, h6, h7⟩ := h
  obtain ⟨hP, kP, lP, hi, sa, sb, ia, ib, hna, hnb, ha, hb⟩ := hh
  by_cases c1 : j < na
  · rw [lk_cat_l c1]
    have b1 := h3 a ha ka j (by omega)
    refine ⟨b1.1, by omega, fun g => ?_⟩
    by_cases c2 : j + 1 < na
    · rw [lk_cat_l c2]; exact b1.2.2 (by omega)
    · rw [lk_cat_r c2]
      have b2 := h3 b hb kb (j + 1 - na) (by omega)
      omega
  · rw [lk_cat_r c1]
    have b1 := h3 b hb kb (j - na) (by omega)
    refine ⟨by omega, b1.2.1, fun g => ?_⟩
    rw [lk_cat_r (by omega)]
    have e : j + 1 - na = j - na + 1 := by omega
    rw [e]
    exact b1.2.2 (by omega)
theorem lk_cat_mono {P i a b na nb : Nat} (h : lk_Tr K L Lo Hi R N F S rt) (hh : lk_pair K L Lo Hi N F S P i a b na nb) (j : Nat) : ∀ d : Nat, j + d + 1 < na + nb → lk_cat F a b na j < lk_cat F a b na (j + d + 1) := by
  intro d
  induction d with
  | zero => intro g; exact (lk_cat_in h hh (j := j) (by omega)).2.2 g
  | succ d ih =>
    intro g
    have x := ih (by omega)
    have y := (lk_cat_in h hh (j := j + d + 1) (by omega)).2.2 (by omega)
    have e : j + (d + 1) + 1 = j + d + 1 + 1 := by omega
    rw [e]
    omega
theorem lk_cat_le {P i a b na nb : Nat} (h : lk_Tr K L Lo Hi R N F S rt) (hh : lk_pair K L Lo Hi N F S P i a b na nb) {j k : Nat} (hjk : j ≤ k) (hk : k < na + nb) : lk_cat F a b na j ≤ lk_cat F a b na k := by
  by_cases e : j = k
  · subst e; exact Int.le_refl _
  · obtain ⟨d, rfl⟩ : ∃ d, k = j + d + 1 := ⟨k - j - 1, by omega⟩
    exact Int.le_of_lt (lk_cat_mono h hh j d hk)
/-- the children of a pair of nodes that are no leaves -/
theorem lk_cat_ch {P i a b na nb : Nat} (h : lk_Tr K L Lo Hi R N F S rt) (hh : lk_pair K L Lo Hi N F S P i a b na nb) (hl : 0 < L a) {j : Nat} (hj : j < na + nb) :
    ∃ c : Nat, c < 24 ∧ lk_cat S a b na j = c ∧ K c = 1 ∧ L c + 1 = L a ∧ Lo c = (if j = 0 then Lo a else lk_cat F a b na (j - 1)) := by
  obtain ⟨ka, kb, la, lb, loa, lob, nab, -, -, -, -, g1, g2, -⟩ := lk_pair_facts h hh
  obtain ⟨h1, h2, h3, h4, h5, h6, h7⟩ := h
  obtain ⟨hP, kP, lP, hi, sa, sb, ia, ib, hna, hnb, ha, hb⟩ := hh
  have na1 := (h4 a ha ka hl).1
  by_cases c1 : j < na
  · rw [lk_cat_l c1]
    obtain ⟨c, c1', c2, c3, c4, c5⟩ := h5 a ha ka hl j (by omega)
    refine ⟨c, c1', c2, c3, c4, ?_⟩
    rw [c5]
    cases j with
    | zero => rw [if_pos rfl]; rfl
    | succ j => rw [if_neg (by omega), lk_lo_s, Nat.add_sub_cancel, lk_cat_l (by omega)]
  · rw [lk_cat_r c1]
    obtain ⟨c, c1', c2, c3, c4, c5⟩ := h5 b hb kb (by omega) (j - na) (by omega)
    refine ⟨c, c1', c2, c3, by omega, ?_⟩
    rw [c5, if_neg (by omega)]
    by_cases e : j = na
    · subst e
      rw [Nat.sub_self, lk_lo_0, lk_cat_l (by omega), lob]
      exact ((h4 a ha ka hl).2 (j - 1) (by omega)).symm
    · rw [lk_lo_pos (by omega), lk_cat_r (by omega)]
      congr 1
      omega
/-- the pair becomes one: b goes into a -/
theorem lk_tr_merge {P i a b na nb : Nat} (h : lk_Tr K L Lo Hi R N F S rt) (hh : lk_pair K L Lo Hi N F S P i a b na nb) (h4' : na + nb ≤ 4)
    (eK : ∀ x, x < 24 → x ≠ b → K' x = K x) (kb' : K' b ≠ 1) (eHi : ∀ x, x < 24 → x ≠ b → Hi' x = if x = a then Hi b else Hi x) (eR : ∀ x, x < 24 → x ≠ b → R' x = if x = a then R b else R x)
    (eN : ∀ x, x < 24 → x ≠ b → N' x = if x = a then (na : Int) + nb else if x = P then N P - 1 else N x)
    (eF : ∀ x, x < 24 → x ≠ b → K' x = 1 → ∀ j : Nat, (j : Int) < N' x → F' x j = if x = a then lk_cat F a b na j else if x = P then (if j < i then F P j else F P (j + 1)) else F x j)
    (eS : ∀ x, x < 24 → x ≠ b → K' x = 1 → ∀ j : Nat, (j : Int) < N' x → S' x j = if x = a then lk_cat S a b na j else if x = P then (if j < i then S P j else if j = i then (a : Int) else S P (j + 1)) else S x j) : lk_Tr K' L Lo Hi' R' N' F' S' rt := by
  have cin : ∀ {j : Nat}, j < na + nb → _ := fun {j} hj => lk_cat_in h hh (j := j) hj
  have cch : ∀ (_ : 0 < L a) {j : Nat}, j < na + nb → _ := fun hl {j} hj => lk_cat_ch h hh hl (j := j) hj
  have un : ∀ {p q i j : Nat} (hp : p < 24) (hq : q < 24) (kp : K p = 1) (kq : K q = 1) (lp : 0 < L p) (lq : 0 < L q) (hi : (i : Int) < N p) (hj : (j : Int) < N q) (e : S p i = S q j), p = q ∧ i = j := fun {p q i j} => lk_uniq h
  obtain ⟨ka, kb, la, lb, loa, lob, nab, naP, nbP, nbr, nar, g1, g2, g3⟩ := lk_pair_facts h hh
  obtain ⟨h1, h2, h3, h4, h5, h6, h7⟩ := h
  obtain ⟨hP, kP, lP, hi, sa, sb, ia, ib, hna, hnb, ha, hb⟩ := hh
  have nb' : ∀ x, K' x = 1 → x ≠ b := fun x kx e => kb' (by rw [← e]; exact kx)
  have old : ∀ x, x < 24 → K' x = 1 → K x = 1 := fun x hx kx => by rw [← eK x hx (nb' x kx)]; exact kx
  have Hia : Hi' a = Hi b := by rw [eHi a ha nab, if_pos rfl]
  have Ra : R' a = R b := by rw [eR a ha nab, if_pos rfl]
  have Na : N' a = (na : Int) + nb := by rw [eN a ha nab, if_pos rfl]
  have NP : N' P = N P - 1 := by rw [eN P hP (Ne.symm nbP), if_neg (Ne.symm naP), if_pos rfl]
  have Hix : ∀ x, x < 24 → x ≠ b → x ≠ a → Hi' x = Hi x := fun x hx e e2 => by rw [eHi x hx e, if_neg e2]
  have Rx : ∀ x, x < 24 → x ≠ b → x ≠ a → R' x = R x := fun x hx e e2 => by rw [eR x hx e, if_neg e2]
  have Nx : ∀ x, x < 24 → x ≠ b → x ≠ a → x ≠ P → N' x = N x := fun x hx e e2 e3 => by rw [eN x hx e, if_neg e2, if_neg e3]
  have Ka' : K' a = 1 := by rw [eK a ha nab]; exact ka
  have KP' : K' P = 1 := by rw [eK P hP (Ne.symm nbP)]; exact kP
  have Fa : ∀ j : Nat, (j : Int) < N' a → F' a j = lk_cat F a b na j := fun j hj => by rw [eF a ha nab Ka' j hj, if_pos rfl]
  have Sa : ∀ j : Nat, (j : Int) < N' a → S' a j = lk_cat S a b na j := fun j hj => by rw [eS a ha nab Ka' j hj, if_pos rfl]
  have FP : ∀ j : Nat, (j : Int) < N' P → F' P j = if j < i then F P j else F P (j + 1) := fun j hj => by rw [eF P hP (Ne.symm nbP) KP' j hj, if_neg (Ne.symm naP), if_pos rfl]
  have SP : ∀ j : Nat, (j : Int) < N' P → S' P j = if j < i then S P j else if j = i then (a : Int) else S P (j + 1) := fun j hj => by rw [eS P hP (Ne.symm nbP) KP' j hj, if_neg (Ne.symm naP), if_pos rfl]
  have Fx : ∀ x, x < 24 → K' x = 1 → x ≠ b → x ≠ a → x ≠ P → ∀ j : Nat, (j : Int) < N' x → F' x j = F x j := fun x hx kx e e2 e3 j hj => by rw [eF x hx e kx j hj, if_neg e2, if_neg e3]
  have Sx : ∀ x, x < 24 → K' x = 1 → x ≠ b → x ≠ a → x ≠ P → ∀ j : Nat, (j : Int) < N' x → S' x j = S x j := fun x hx kx e e2 e3 j hj => by rw [eS x hx e kx j hj, if_neg e2, if_neg e3]
  have ab := h1 b hb kb
  have aa := h1 a ha ka
  refine ⟨fun x hx kx => ?_, fun x hx kx rx => ?_, fun x hx kx j hj => ?_, fun x hx kx lx => ?_, fun x hx kx lx j hj => ?_, fun x y hx hy kx ky el ne => ?_, h7.1, by rw [eK rt h7.1 (Ne.symm nbr)]; exact h7.2.1, h7.2.2⟩
  · have e := nb' x kx
    have ax := h1 x hx (old x hx kx)
    by_cases e2 : x = a
    · subst e2
      rw [Hia, Ra, Na]
      exact ⟨aa.1, aa.2.1, aa.2.2.1, by omega, ab.2.2.2.2.1, by omega, by omega, ab.2.2.2.2.2.2.2⟩
    · by_cases e3 : x = P
      · subst e3
        rw [Hix x hx e e2, Rx x hx e e2, NP]
        exact ⟨ax.1, ax.2.1, ax.2.2.1, ax.2.2.2.1, ax.2.2.2.2.1, by omega, by omega, ax.2.2.2.2.2.2.2⟩
      · rw [Hix x hx e e2, Rx x hx e e2, Nx x hx e e2 e3]
        exact ax
  · have e := nb' x kx
    by_cases e2 : x = a
    · subst e2
      rw [Ra] at rx ⊢
      obtain ⟨r, r1, r2, r3, r4, r5⟩ := h2 b hb kb rx
      have rb : r ≠ b := fun z => by subst z; omega
      exact ⟨r, r1, r2, by rw [eK r r1 rb]; exact r3, by omega, by rw [Hia]; exact r5⟩
    · rw [Rx x hx e e2] at rx ⊢
      obtain ⟨r, r1, r2, r3, r4, r5⟩ := h2 x hx (old x hx kx) rx
      have rb : r ≠ b := fun z => by
        subst z
        exact e2 (lk_samehi h1 h6 hx ha (old x hx kx) ka (by omega) (by omega))
      exact ⟨r, r1, r2, by rw [eK r r1 rb]; exact r3, r4, by rw [Hix x hx e e2]; exact r5⟩
  · have e := nb' x kx
    by_cases e2 : x = a
    · subst e2
      rw [Fa j hj, Hia]
      rw [Na] at hj ⊢
      have b1 := cin (j := j) (by omega)
      refine ⟨b1.1, b1.2.1, fun g => ?_⟩
      rw [Fa (j + 1) (by omega)]
      exact b1.2.2 (by omega)
    · by_cases e3 : x = P
      · subst e3
        rw [FP j hj, Hix x hx e e2]
        have s1 : (j : Int) + 1 < N' x → F' x (j + 1) = if j + 1 < i then F x (j + 1) else F x (j + 1 + 1) := fun g => FP (j + 1) (by omega)
        have hj' := hj
        rw [NP] at hj'
        by_cases c1 : j < i
        · rw [if_pos c1]
          have b1 := h3 x hx kP j (by omega)
          refine ⟨b1.1, b1.2.1, fun g => ?_⟩
          rw [s1 g]
          by_cases c2 : j + 1 < i
          · rw [if_pos c2]; exact b1.2.2 (by omega)
          · rw [if_neg c2]; exact lk_incl h3 hx kP (by omega) (by omega)
        · rw [if_neg c1]
          have b1 := h3 x hx kP (j + 1) (by omega)
          refine ⟨b1.1, b1.2.1, fun g => ?_⟩
          rw [s1 g, if_neg (by omega)]
          exact b1.2.2 (by omega)
      · have b1 := h3 x hx (old x hx kx) j (by rw [← Nx x hx e e2 e3]; exact hj)
        rw [Fx x hx kx e e2 e3 j hj, Hix x hx e e2]
        refine ⟨b1.1, b1.2.1, fun g => ?_⟩
        rw [Fx x hx kx e e2 e3 (j + 1) (by omega)]
        exact b1.2.2 (by rw [← Nx x hx e e2 e3]; exact g)
  · have e := nb' x kx
    by_cases e2 : x = a
    · subst e2
      have n1 := (h4 b hb kb (by omega)).1
      rw [Na, Hia]
      refine ⟨by omega, fun j g => ?_⟩
      rw [Fa j (by omega), lk_cat_r (by omega)]
      exact (h4 b hb kb (by omega)).2 (j - na) (by omega)
    · obtain ⟨a1, a2⟩ := h4 x hx (old x hx kx) lx
      rw [Hix x hx e e2]
      by_cases e3 : x = P
      · subst e3
        rw [NP]
        refine ⟨by omega, fun j g => ?_⟩
        rw [FP j (by omega), if_neg (by omega)]
        exact a2 (j + 1) (by omega)
      · rw [Nx x hx e e2 e3]
        refine ⟨a1, fun j g => ?_⟩
        rw [Fx x hx kx e e2 e3 j (by rw [Nx x hx e e2 e3]; omega)]
        exact a2 j g
  · have e := nb' x kx
    by_cases e2 : x = a
    · subst e2
      rw [Sa j hj]
      have hj' := hj
      rw [Na] at hj'
      obtain ⟨c, c1, c2, c3, c4, c5⟩ := cch lx (j := j) (by omega)
      have cb : c ≠ b := fun z => by subst z; omega
      refine ⟨c, c1, c2, by rw [eK c c1 cb]; exact c3, c4, ?_⟩
      rw [c5]
      cases j with
      | zero => rw [if_pos rfl]; rfl
      | succ j => rw [if_neg (by omega), lk_lo_s, Fa j (by omega)]; rfl
    · by_cases e3 : x = P
      · subst e3
        rw [SP j hj]
        have hj' := hj
        rw [NP] at hj'
        have fl : ∀ y : Nat, y < i → F' x y = F x y := fun y hy => by rw [FP y (by omega), if_pos hy]
        by_cases c1 : j < i
        · rw [if_pos c1]
          obtain ⟨c, c1', c2, c3, c4, c5⟩ := h5 x hx kP lP j (by omega)
          have cb : c ≠ b := fun z => by
            subst z
            have := (un hx hx kP kP lP lP (i := j) (j := i + 1) (by omega) (by omega) (by omega)).2
            omega
          refine ⟨c, c1', c2, by rw [eK c c1' cb]; exact c3, c4, ?_⟩
          rw [c5]
          cases j with
          | zero => rfl
          | succ j => rw [lk_lo_s, lk_lo_s, fl j (by omega)]
        · rw [if_neg c1]
          by_cases c2 : j = i
          · rw [if_pos c2]
            subst c2
            refine ⟨a, ha, rfl, by rw [eK a ha nab]; exact ka, la, ?_⟩
            rw [loa]
            cases j with
            | zero => rfl
            | succ j => rw [lk_lo_s, lk_lo_s, fl j (by omega)]
          · rw [if_neg c2]
            obtain ⟨c, c1', c2', c3, c4, c5⟩ := h5 x hx kP lP (j + 1) (by omega)
            have cb : c ≠ b := fun z => by
              subst z
              have := (un hx hx kP kP lP lP (i := j + 1) (j := i + 1) (by omega) (by omega) (by omega)).2
              omega
            refine ⟨c, c1', c2', by rw [eK c c1' cb]; exact c3, c4, ?_⟩
            rw [c5, lk_lo_s, lk_lo_pos (by omega), FP (j - 1) (by omega), if_neg (by omega)]
            congr 1
            omega
      · rw [Sx x hx kx e e2 e3 j hj]
        have hj' := hj
        rw [Nx x hx e e2 e3] at hj'
        obtain ⟨c, c1, c2, c3, c4, c5⟩ := h5 x hx (old x hx kx) lx j hj'
        have cb : c ≠ b := fun z => by
          subst z
          exact e3 (un hx hP (old x hx kx) kP lx lP (i := j) (j := i + 1) hj' (by omega) (by omega)).1
        refine ⟨c, c1, c2, by rw [eK c c1 cb]; exact c3, c4, ?_⟩
        rw [c5]
        cases j with
        | zero => rfl
        | succ j => rw [lk_lo_s, lk_lo_s, Fx x hx kx e e2 e3 j (by omega)]
  · have e := nb' x kx
    have e' := nb' y ky
    have o := h6 x y hx hy (old x hx kx) (old y hy ky) el ne
    by_cases e2 : x = a
    · subst e2
      rw [Hia, Hix y hy e' (Ne.symm ne)]
      have ay := h1 y hy (old y hy ky)
      have o2 := h6 b y hb hy kb (old y hy ky) (by omega) (Ne.symm e')
      rcases o with g | g
      · rcases o2 with g' | g'
        · left; exact g'
        · exfalso; omega
      · right; exact g
    · by_cases e3 : y = a
      · subst e3
        rw [Hia, Hix x hx e e2]
        have ax := h1 x hx (old x hx kx)
        have o2 := h6 x b hx hb (old x hx kx) kb (by omega) e
        rcases o with g | g
        · left; exact g
        · rcases o2 with g' | g'
          · exfalso; omega
          · right; exact g'
      · rw [Hix x hx e e2, Hix y hy e' e3]
        exact o
/-- the pair's entries are shared: a gets half of them -/
theorem lk_tr_bal {P i a b na nb half : Nat} (h : lk_Tr K L Lo Hi R N F S rt) (hh : lk_pair K L Lo Hi N F S P i a b na nb) (hf1 : 1 ≤ half) (hf2 : half < na + nb) (hf3 : half ≤ 5) (hf4 : na + nb ≤ half + 5)
    (eLo : ∀ x, x < 24 → Lo' x = if x = b then lk_cat F a b na (half - 1) else Lo x) (eHi : ∀ x, x < 24 → Hi' x = if x = a then lk_cat F a b na (half - 1) else Hi x)
    (eN : ∀ x, x < 24 → N' x = if x = a then (half : Int) else if x = b then (na : Int) + nb - half else N x)
    (eF : ∀ x, x < 24 → K x = 1 → ∀ j : Nat, (j : Int) < N' x → F' x j = if x = a then lk_cat F a b na j else if x = b then lk_cat F a b na (half + j) else if x = P ∧ j = i then lk_cat F a b na (half - 1) else F x j)
    (eS : ∀ x, x < 24 → K x = 1 → ∀ j : Nat, (j : Int) < N' x → S' x j = if x = a then lk_cat S a b na j else if x = b then lk_cat S a b na (half + j) else S x j) : lk_Tr K L Lo' Hi' R N' F' S' rt := by
  have cin : ∀ {j : Nat}, j < na + nb → _ := fun {j} hj => lk_cat_in h hh (j := j) hj
  have cle : ∀ {j k : Nat}, j ≤ k → k < na + nb → _ := fun {j k} h1 h2 => lk_cat_le h hh (j := j) (k := k) h1 h2
  have cch : ∀ (_ : 0 < L a) {j : Nat}, j < na + nb → _ := fun hl {j} hj => lk_cat_ch h hh hl (j := j) hj
  have un : ∀ {p q i j : Nat} (hp : p < 24) (hq : q < 24) (kp : K p = 1) (kq : K q = 1) (lp : 0 < L p) (lq : 0 < L q) (hi : (i : Int) < N p) (hj : (j : Int) < N q) (e : S p i = S q j), p = q ∧ i = j := fun {p q i j} => lk_uniq h
  obtain ⟨ka, kb, la, lb, loa, lob, nab, naP, nbP, nbr, nar, g1, g2, g3⟩ := lk_pair_facts h hh
  obtain ⟨h1, h2, h3, h4, h5, h6, h7⟩ := h
  obtain ⟨hP, kP, lP, hi, sa, sb, ia, ib, hna, hnb, ha, hb⟩ := hh
  have cm := cin (j := half - 1) (by omega)
  have cn := cin (j := half) (by omega)
  have cm2 := cm.2.2 (by omega)
  have e9 : half - 1 + 1 = half := by omega
  rw [e9] at cm2
  generalize hx9 : lk_cat F a b na (half - 1) = x9 at *
  have Loa : Lo' a = Lo a := by rw [eLo a ha, if_neg nab]
  have Lob : Lo' b = x9 := by rw [eLo b hb, if_pos rfl]
  have Lox : ∀ x, x < 24 → x ≠ b → Lo' x = Lo x := fun x hx e => by rw [eLo x hx, if_neg e]
  have Hia : Hi' a = x9 := by rw [eHi a ha, if_pos rfl]
  have Hix : ∀ x, x < 24 → x ≠ a → Hi' x = Hi x := fun x hx e => by rw [eHi x hx, if_neg e]
  have Na : N' a = (half : Int) := by rw [eN a ha, if_pos rfl]
  have Nb : N' b = (na : Int) + nb - half := by rw [eN b hb, if_neg (Ne.symm nab), if_pos rfl]
  have Nx : ∀ x, x < 24 → x ≠ a → x ≠ b → N' x = N x := fun x hx e e2 => by rw [eN x hx, if_neg e, if_neg e2]
  have Fa : ∀ j : Nat, (j : Int) < N' a → F' a j = lk_cat F a b na j := fun j hj => by rw [eF a ha ka j hj, if_pos rfl]
  have Fb : ∀ j : Nat, (j : Int) < N' b → F' b j = lk_cat F a b na (half + j) := fun j hj => by rw [eF b hb kb j hj, if_neg (Ne.symm nab), if_pos rfl]
  have Fx : ∀ x, x < 24 → K x = 1 → x ≠ a → x ≠ b → ¬ (x = P) → ∀ j : Nat, (j : Int) < N' x → F' x j = F x j := fun x hx kx e e2 e3 j hj => by rw [eF x hx kx j hj, if_neg e, if_neg e2, if_neg (fun z => e3 z.1)]
  have FP : ∀ j : Nat, (j : Int) < N' P → F' P j = if j = i then x9 else F P j := fun j hj => by
    rw [eF P hP kP j hj, if_neg (Ne.symm naP), if_neg (Ne.symm nbP)]
    by_cases e : j = i
    · rw [if_pos ⟨rfl, e⟩, if_pos e]
    · rw [if_neg (fun z => e z.2), if_neg e]
  have Sa : ∀ j : Nat, (j : Int) < N' a → S' a j = lk_cat S a b na j := fun j hj => by rw [eS a ha ka j hj, if_pos rfl]
  have Sb : ∀ j : Nat, (j : Int) < N' b → S' b j = lk_cat S a b na (half + j) := fun j hj => by rw [eS b hb kb j hj, if_neg (Ne.symm nab), if_pos rfl]
  have Sx : ∀ x, x < 24 → K x = 1 → x ≠ a → x ≠ b → ∀ j : Nat, (j : Int) < N' x → S' x j = S x j := fun x hx kx e e2 j hj => by rw [eS x hx kx j hj, if_neg e, if_neg e2]
  have NP : N' P = N P := Nx P hP (Ne.symm naP) (Ne.symm nbP)
  have ab := h1 b hb kb
  have aa := h1 a ha ka
  have aP := h1 P hP kP
  refine ⟨fun x hx kx => ?_, fun x hx kx rx => ?_, fun x hx kx j hj => ?_, fun x hx kx lx => ?_, fun x hx kx lx j hj => ?_, fun x y hx hy kx ky el ne => ?_, h7.1, h7.2.1, by rw [Lox rt h7.1 (Ne.symm nbr)]; exact h7.2.2⟩
  · have ax := h1 x hx kx
    by_cases e : x = a
    · subst e
      rw [Loa, Hia, Na]
      exact ⟨aa.1, aa.2.1, aa.2.2.1, cm.1, by omega, by omega, by omega, fun z => by have := aa.2.2.2.2.2.2.2 z; omega⟩
    · by_cases e2 : x = b
      · subst e2
        rw [Lob, Hix x hx e, Nb]
        exact ⟨ab.1, ab.2.1, by omega, by omega, ab.2.2.2.2.1, by omega, by omega, ab.2.2.2.2.2.2.2⟩
      · rw [Lox x hx e2, Hix x hx e, Nx x hx e e2]
        exact ax
  · obtain ⟨r, r1, r2, r3, r4, r5⟩ := h2 x hx kx rx
    by_cases e : x = a
    · subst e
      have rb : r = b := lk_samelo h1 h6 r1 hb r3 kb (by omega) (by omega)
      subst rb
      exact ⟨r, r1, r2, r3, r4, by rw [Lob, Hia]⟩
    · have rb : r ≠ b := fun z => by
        subst z
        exact e (lk_samehi h1 h6 hx ha kx ka (by omega) (by omega))
      exact ⟨r, r1, r2, r3, r4, by rw [Lox r r1 rb, Hix x hx e]; exact r5⟩
  · by_cases e : x = a
    · subst e
      rw [Fa j hj, Loa, Hia]
      have hj' := hj
      rw [Na] at hj'
      have b1 := cin (j := j) (by omega)
      have b2 := cle (j := j) (k := half - 1) (by omega) (by omega)
      rw [hx9] at b2
      refine ⟨b1.1, b2, fun g => ?_⟩
      rw [Fa (j + 1) g]
      exact b1.2.2 (by omega)
    · by_cases e2 : x = b
      · subst e2
        rw [Fb j hj, Lob, Hix x hx e]
        have hj' := hj
        rw [Nb] at hj'
        have b1 := cin (j := half + j) (by omega)
        have b2 := cle (j := half) (k := half + j) (by omega) (by omega)
        refine ⟨by omega, b1.2.1, fun g => ?_⟩
        rw [Fb (j + 1) g]
        rw [Nb] at g
        exact b1.2.2 (by omega)
      · have hj' := hj
        rw [Nx x hx e e2] at hj'
        have b1 := h3 x hx kx j hj'
        rw [Lox x hx e2, Hix x hx e]
        by_cases e3 : x = P
        · subst e3
          have s1 : (j : Int) + 1 < N' x → F' x (j + 1) = if j + 1 = i then x9 else F x (j + 1) := fun g => FP (j + 1) g
          rw [FP j hj]
          have lin := lk_lo_in h3 hx kP (i := i) (by omega)
          have bi1 := h3 x hx kP (i + 1) (by omega)
          by_cases c1 : j = i
          · subst c1
            rw [if_pos rfl]
            refine ⟨by omega, by omega, fun g => ?_⟩
            rw [s1 g, if_neg (by omega)]
            omega
          · rw [if_neg c1]
            refine ⟨b1.1, b1.2.1, fun g => ?_⟩
            rw [s1 g]
            by_cases c2 : j + 1 = i
            · rw [if_pos c2]
              have : lk_lo Lo F x i = F x j := by rw [← c2]; rfl
              omega
            · rw [if_neg c2]
              exact b1.2.2 (by rw [← NP]; exact g)
        · rw [Fx x hx kx e e2 e3 j hj]
          refine ⟨b1.1, b1.2.1, fun g => ?_⟩
          rw [Fx x hx kx e e2 e3 (j + 1) g]
          exact b1.2.2 (by rw [← Nx x hx e e2]; exact g)
  · obtain ⟨a1, a2⟩ := h4 x hx kx lx
    by_cases e : x = a
    · subst e
      rw [Na, Hia]
      refine ⟨by omega, fun j g => ?_⟩
      rw [Fa j (by omega), ← hx9]
      congr 1
      omega
    · rw [Hix x hx e]
      by_cases e2 : x = b
      · subst e2
        rw [Nb]
        refine ⟨by omega, fun j g => ?_⟩
        rw [Fb j (by omega), lk_cat_r (by omega)]
        exact a2 (half + j - na) (by omega)
      · rw [Nx x hx e e2]
        refine ⟨a1, fun j g => ?_⟩
        by_cases e3 : x = P
        · subst e3
          rw [FP j (by omega), if_neg (by omega)]
          exact a2 j g
        · rw [Fx x hx kx e e2 e3 j (by rw [Nx x hx e e2]; omega)]
          exact a2 j g
  · by_cases e : x = a
    · subst e
      rw [Sa j hj]
      have hj' := hj
      rw [Na] at hj'
      obtain ⟨c, c1, c2, c3, c4, c5⟩ := cch lx (j := j) (by omega)
      have cb : c ≠ b := fun z => by subst z; omega
      refine ⟨c, c1, c2, c3, c4, ?_⟩
      rw [Lox c c1 cb, c5]
      cases j with
      | zero => rw [if_pos rfl, lk_lo_0, Loa]
      | succ j => rw [if_neg (by omega), lk_lo_s, Fa j (by omega)]; rfl
    · by_cases e2 : x = b
      · subst e2
        rw [Sb j hj]
        have hj' := hj
        rw [Nb] at hj'
        obtain ⟨c, c1, c2, c3, c4, c5⟩ := cch (by omega) (j := half + j) (by omega)
        have cb : c ≠ x := fun z => by subst z; omega
        refine ⟨c, c1, c2, c3, by omega, ?_⟩
        rw [Lox c c1 cb, c5, if_neg (by omega)]
        cases j with
        | zero => rw [lk_lo_0, Lob]; exact hx9
        | succ j =>
          rw [lk_lo_s, Fb j (by omega)]
          congr 1
      · rw [Sx x hx kx e e2 j hj]
        have hj' := hj
        rw [Nx x hx e e2] at hj'
        obtain ⟨c, c1, c2, c3, c4, c5⟩ := h5 x hx kx lx j hj'
        by_cases e3 : x = P
        · subst e3
          by_cases c9 : j = i + 1
          · subst c9
            refine ⟨b, hb, sb, kb, lb, ?_⟩
            rw [Lob, lk_lo_s, FP i (by omega), if_pos rfl]
          · have cb : c ≠ b := fun z => by
              subst z
              have := (un hx hx kP kP lP lP (i := j) (j := i + 1) (by omega) (by omega) (by omega)).2
              omega
            refine ⟨c, c1, c2, c3, c4, ?_⟩
            rw [Lox c c1 cb, c5]
            cases j with
            | zero => rw [lk_lo_0, lk_lo_0, Lox x hx e2]
            | succ j => rw [lk_lo_s, lk_lo_s, FP j (by omega), if_neg (by omega)]
        · have cb : c ≠ b := fun z => by
            subst z
            exact e3 (un hx hP kx kP lx lP (i := j) (j := i + 1) hj' (by omega) (by omega)).1
          refine ⟨c, c1, c2, c3, c4, ?_⟩
          rw [Lox c c1 cb, c5]
          cases j with
          | zero => rw [lk_lo_0, lk_lo_0, Lox x hx e2]
          | succ j => rw [lk_lo_s, lk_lo_s, Fx x hx kx e e2 e3 j (by omega)]
  · have key : ∀ y, y < 24 → K y = 1 → L y = L a → y ≠ a → y ≠ b → (x9 ≤ Lo y ∧ Hi b ≤ Lo y) ∨ Hi y ≤ Lo a := by
      intro y hy ky el ya yb
      have ay := h1 y hy ky
      rcases h6 a y ha hy ka ky el.symm (Ne.symm ya) with g | g
      · rcases h6 b y hb hy kb ky (by omega) (Ne.symm yb) with g' | g'
        · left; exact ⟨by omega, g'⟩
        · exfalso; omega
      · right; exact g
    by_cases e : x = a
    · subst e
      by_cases e2 : y = b
      · subst e2
        left
        rw [Hia, Lob]
        exact Int.le_refl _
      · rw [Hia, Loa, Lox y hy e2, Hix y hy (Ne.symm ne)]
        rcases key y hy ky el.symm (Ne.symm ne) e2 with g | g
        · left; exact g.1
        · right; exact g
    · by_cases e2 : x = b
      · subst e2
        by_cases e3 : y = a
        · subst e3
          right
          rw [Hia, Lob]
          exact Int.le_refl _
        · rw [Lob, Hix x hx e, Lox y hy (Ne.symm ne), Hix y hy e3]
          rcases key y hy ky (by omega) e3 (Ne.symm ne) with g | g
          · left; exact g.2
          · right; omega
      · rw [Lox x hx e2, Hix x hx e]
        by_cases e3 : y = a
        · subst e3
          rw [Hia, Loa]
          rcases key x hx kx el e e2 with g | g
          · right; exact g.1
          · left; exact g
        · by_cases e4 : y = b
          · subst e4
            rw [Lob, Hix y hy e3]
            rcases key x hx kx (by omega) e e2 with g | g
            · right; exact g.2
            · left; omega
          · rw [Lox y hy e4, Hix y hy e3]
            exact h6 x y hx hy kx ky el ne
/-- a root with one entry and no neighbour goes: its child is the root -/
theorem lk_tr_shrink {c : Nat} (h : lk_Tr K L Lo Hi R N F S rt) (l1 : 0 < L rt) (r1 : R rt = -1) (hc : S rt 0 = c)
    (eK : ∀ x, x < 24 → x ≠ rt → K' x = K x) (kr : K' rt ≠ 1) : lk_Tr K' L Lo Hi R N F S c := by
  obtain ⟨h1, h2, h3, h4, h5, h6, h7⟩ := h
  have hr := h7.1
  have kr0 := h7.2.1
  obtain ⟨d, d1, d2, d3, d4, d5⟩ := h5 rt hr kr0 l1 0 (by have := (h4 rt hr kr0 l1).1; omega)
  have ed : d = c := by omega
  subst ed
  rw [lk_lo_0] at d5
  have ne : ∀ x, K' x = 1 → x ≠ rt := fun x kx e => kr (by rw [← e]; exact kx)
  have old : ∀ x, x < 24 → K' x = 1 → K x = 1 := fun x hx kx => by rw [← eK x hx (ne x kx)]; exact kx
  have art := h1 rt hr kr0
  have hi9 := art.2.2.2.2.2.2.2 r1
  have lo9 := h7.2.2
  have dr : d ≠ rt := fun e => by subst e; omega
  have low : ∀ x, x < 24 → K x = 1 → x ≠ rt → L x ≤ L d := by
    intro x hx kx e
    have ax := h1 x hx kx
    by_cases g : L x = L rt
    · exfalso
      rcases h6 x rt hx hr kx kr0 g e with g' | g' <;> omega
    · omega
  refine ⟨fun x hx kx => ?_, fun x hx kx rx => ?_, fun x hx kx => h3 x hx (old x hx kx), fun x hx kx => h4 x hx (old x hx kx), fun x hx kx lx i hi => ?_, fun x y hx hy kx ky => h6 x y hx hy (old x hx kx) (old y hy ky), d1, by rw [eK d d1 dr]; exact d3, by omega⟩
  · have ax := h1 x hx (old x hx kx)
    exact ⟨ax.1, low x hx (old x hx kx) (ne x kx), ax.2.2⟩
  · obtain ⟨r, q1, q2, q3, q4, q5⟩ := h2 x hx (old x hx kx) rx
    have ax := h1 x hx (old x hx kx)
    have e : r ≠ rt := fun z => by subst z; omega
    exact ⟨r, q1, q2, by rw [eK r q1 e]; exact q3, q4, q5⟩
  · obtain ⟨c, q1, q2, q3, q4, q5⟩ := h5 x hx (old x hx kx) lx i hi
    have ax := h1 x hx (old x hx kx)
    have e : c ≠ rt := fun z => by subst z; omega
    exact ⟨c, q1, q2, by rw [eK c q1 e]; exact q3, q4, q5⟩
end Tree2
