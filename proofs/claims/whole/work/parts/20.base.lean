/-! worlds by numbers: the cells 0 .. n - 1, each at ad k, with what e says of it -/
def lk_w (n : Nat) (ad : Nat → Nat) (e : Nat → va_E) : va_W := (List.range n).map (fun k => (ad k, e k))
theorem lk_w_get {n : Nat} {ad : Nat → Nat} {e : Nat → va_E} {k : Nat} (h : k < n) : (lk_w n ad e)[k]? = some (ad k, e k) := by
  unfold lk_w
  rw [List.getElem?_map, List.getElem?_range h]
  rfl
theorem lk_w_len {n : Nat} {ad : Nat → Nat} {e : Nat → va_E} : (lk_w n ad e).length = n := by
  simp [lk_w]
theorem lk_w_lt {n : Nat} {ad : Nat → Nat} {e : Nat → va_E} {k : Nat} {q : Nat × va_E} (h : (lk_w n ad e)[k]? = some q) : k < n ∧ q = (ad k, e k) := by
  have h1 := (List.getElem?_eq_some_iff.mp h).1
  rw [lk_w_len] at h1
  rw [lk_w_get h1] at h
  exact ⟨h1, (Option.some.inj h).symm⟩
theorem lk_w_set {n : Nat} {ad : Nat → Nat} {e : Nat → va_E} {k : Nat} {x : va_E} (h : k < n) : (lk_w n ad e).set k (ad k, x) = lk_w n ad (va_up e k x) := by
  apply List.ext_getElem?
  intro j
  by_cases hj : j = k
  · subst hj
    rw [List.getElem?_set_self (by rw [lk_w_len]; exact h), lk_w_get h, va_up_self]
  · rw [List.getElem?_set_ne (Ne.symm hj)]
    by_cases hn : j < n
    · rw [lk_w_get hn, lk_w_get hn, va_up_ne _ _ hj]
    · rw [List.getElem?_eq_none (by rw [lk_w_len]; omega), List.getElem?_eq_none (by rw [lk_w_len]; omega)]
theorem lk_w_congr {n : Nat} {ad : Nat → Nat} {e e' : Nat → va_E} (h : ∀ k, k < n → e k = e' k) : lk_w n ad e = lk_w n ad e' := by
  unfold lk_w
  apply List.map_congr_left
  intro k hk
  rw [h k (List.mem_range.mp hk)]
theorem lk_w_D {A : Nat → Prop} {n : Nat} {ad : Nat → Nat} {e e' : Nat → va_E} (h : va_D A (lk_w n ad e)) : va_D A (lk_w n ad e') := by
  refine ⟨fun i j x y hx hy hxy => ?_, fun k q hk => ?_⟩
  · obtain ⟨h1, rfl⟩ := lk_w_lt hx
    obtain ⟨h2, rfl⟩ := lk_w_lt hy
    exact h.1 i j (ad i, e i) (ad j, e j) (lk_w_get h1) (lk_w_get h2) hxy
  · obtain ⟨h1, rfl⟩ := lk_w_lt hk
    exact h.2 k (ad k, e k) (lk_w_get h1)
theorem lk_w_Dw {A B : Nat → Prop} {n : Nat} {ad : Nat → Nat} {e e' : Nat → va_E} (h : va_D A (lk_w n ad e)) (hB : ∀ k, k < n → B (ad k)) : va_D B (lk_w n ad e') := by
  refine ⟨(lk_w_D (e' := e') h).1, fun k q hk => ?_⟩
  obtain ⟨h1, rfl⟩ := lk_w_lt hk
  exact hB k h1
/-- what a method over such a world may change -/
def lk_A (n : Nat) (ad : Nat → Nat) (sz : Nat) : Nat → Prop := fun q => (∃ k, k < n ∧ ad k = q) ∨ sz ≤ q
/-- the heap holds the world, its cells are apart and in A; nothing outside A has changed since H0 -/
def lk_H (D : va_G) (cl : List vw_C) (A : Nat → Prop) (H0 : Heap) (ws : va_W) (H : Heap) (locs : List Loc) : Prop := va_P D cl ws H ∧ va_D A ws ∧ va_S A H0 H locs
theorem lk_H.P {D : va_G} {cl : List vw_C} {A : Nat → Prop} {H0 : Heap} {ws : va_W} {H : Heap} {locs : List Loc} (h : lk_H D cl A H0 ws H locs) : va_P D cl ws H := h.1
theorem lk_H.D {D : va_G} {cl : List vw_C} {A : Nat → Prop} {H0 : Heap} {ws : va_W} {H : Heap} {locs : List Loc} (h : lk_H D cl A H0 ws H locs) : va_D A ws := h.2.1
theorem lk_H.S {D : va_G} {cl : List vw_C} {A : Nat → Prop} {H0 : Heap} {ws : va_W} {H : Heap} {locs : List Loc} (h : lk_H D cl A H0 ws H locs) : va_S A H0 H locs := h.2.2
section Rows
variable {p : Program} {l : Launch} {e : Env} {R : Room} {s : State} {m : MethodId} {args : Array Value} {below : List Frame} {meth : Method} {c : Code} {H : Heap} {locs : List Loc} {cells slots : Nat} {Q : State → Prop}
variable {cc : ByteArray} {pc : Nat} {ls : Array Slot} {rest : List Value}
/-- the top of the stack under another name -/
theorem lk_top {x : Int32} (v : Int32) (h : x = v) (k : W p l e R s m args below meth c H locs cells slots Q (F0 m pc ls (.int v :: rest))) : W p l e R s m args below meth c H locs cells slots Q (F0 m pc ls (.int x :: rest)) := by
  rw [h]; exact k
/-- numbers that are no more than their names -/
theorem lk_iaddN (hexec : p.tables.exec = Jvm.exec) (hb : c.code = cc) {x y : Nat} (hdg : decode cc pc = .ok (.iadd, 1)) (k : W p l e R s m args below meth c H locs cells slots Q (F0 m (pc + 1) ls (.int (nI (x + y)) :: rest))) : W p l e R s m args below meth c H locs cells slots Q (F0 m pc ls (.int (nI y) :: .int (nI x) :: rest)) :=
  lv_iadd hexec hb hdg (by rw [nI_add]; exact k)
theorem lk_imulN (hexec : p.tables.exec = Jvm.exec) (hb : c.code = cc) {x y : Nat} (hdg : decode cc pc = .ok (.imul, 1)) (k : W p l e R s m args below meth c H locs cells slots Q (F0 m (pc + 1) ls (.int (nI (x * y)) :: rest))) : W p l e R s m args below meth c H locs cells slots Q (F0 m pc ls (.int (nI y) :: .int (nI x) :: rest)) :=
  lv_imul hexec hb hdg (by rw [pk_mul]; exact k)
theorem lk_isubN (hexec : p.tables.exec = Jvm.exec) (hb : c.code = cc) {x y : Nat} (h : y ≤ x) (hdg : decode cc pc = .ok (.isub, 1)) (k : W p l e R s m args below meth c H locs cells slots Q (F0 m (pc + 1) ls (.int (nI (x - y)) :: rest))) : W p l e R s m args below meth c H locs cells slots Q (F0 m pc ls (.int (nI y) :: .int (nI x) :: rest)) :=
  lv_isub hexec hb hdg (by rw [pk_sub h]; exact k)
end Rows
