/-! The environment: ids in the order in which they are made. -/
def en_f (n : Nat) (a : xm_I) : Option (xm_I × Nat × Nat) := (sh_l n).find? (fun q => q.1 == a)
def en_y (n : Nat) (a : xm_I) : Bool := (sh_l n).any (fun q => q.1 == a)
def en_x (n : Nat) (a : xm_I) : Nat := (sh_l n).findIdx (fun q => q.1 == a)
def en (n L : Nat) : xm_E := (fun a => if a = (40, 0, 0) then (110, L) else match en_f n a with
  | some q => q.2
  | none => (200, 0), fun a => if en_y n a = true then en_x n a else a.2.1, fun k => match (sh_l n)[k]? with
  | some q => q.1
  | none => (50, k, 0))
def en_kb (n : Nat) (a : xm_I) (t s : Nat) : Bool := (a != (40, 0, 0)) && (en_f n a == some (a, t, s))
def en_pb (n : Nat) (a : xm_I) (m : Nat) : Bool := en_y n a && decide (en_x n a < m)
def en_ab (n k : Nat) (a : xm_I) : Bool := (sh_l n)[k]?.map (fun q => q.1) == some a
theorem en_k {n L : Nat} {a : xm_I} {t s : Nat} (h : en_kb n a t s = true) : (en n L).1 a = (t, s) := by
  unfold en_kb at h
  rw [Bool.and_eq_true, bne_iff_ne, beq_iff_eq] at h
  show (if a = (40, 0, 0) then (110, L) else match en_f n a with | some q => q.2 | none => (200, 0)) = (t, s)
  rw [if_neg h.1, h.2]
theorem en_p {n L : Nat} {a : xm_I} {m : Nat} (h : en_pb n a m = true) : (en n L).2.1 a < m := by
  unfold en_pb at h
  rw [Bool.and_eq_true, decide_eq_true_eq] at h
  show (if en_y n a = true then en_x n a else a.2.1) < m
  rw [if_pos h.1]
  exact h.2
theorem en_ok {n L : Nat} {c : Nat × Nat} {a : xm_I} {t s : Nat} (h : (en_kb n a t s && en_pb n a c.1) = true) : go_ok (en n L) c a t s := by
  rw [Bool.and_eq_true] at h
  exact ⟨en_k h.1, en_p h.2⟩
theorem en_a {n L k : Nat} {a : xm_I} (h : en_ab n k a = true) : (en n L).2.2 k = a := by
  unfold en_ab at h
  rw [beq_iff_eq] at h
  show (match (sh_l n)[k]? with | some q => q.1 | none => (50, k, 0)) = a
  cases hq : (sh_l n)[k]? with
  | none => rw [hq] at h; cases h
  | some q => rw [hq] at h; exact Option.some.inj h
def en_nd (n : Nat) : Bool := (List.range (sh_l n).length).all (fun k => match (sh_l n)[k]? with
  | some q => en_y n q.1 && (en_x n q.1 == k)
  | none => true) && (sh_l n).all (fun q => q.1.1 != 50)
theorem en_nd4 : en_nd 4 = true := by decide +kernel
theorem en_nd5 : en_nd 5 = true := by decide +kernel
theorem en_nd6 : en_nd 6 = true := by decide +kernel
theorem en_out {n k : Nat} (h : en_nd n = true) : en_y n (50, k, 0) = false ∧ en_f n (50, k, 0) = none := by
  unfold en_nd at h
  rw [Bool.and_eq_true] at h
  have h2 := List.all_eq_true.mp h.2
  have key : ∀ q ∈ sh_l n, (q.1 == (50, k, 0)) = false := by
    intro q hq
    have := h2 q hq
    rw [bne_iff_ne] at this
    rw [beq_eq_false_iff_ne]
    intro e
    exact this (by rw [e])
  constructor
  · unfold en_y
    rw [List.any_eq_false]
    intro q hq
    rw [key q hq]
    exact Bool.false_ne_true
  · unfold en_f
    rw [List.find?_eq_none]
    intro q hq
    rw [key q hq]
    exact Bool.false_ne_true
theorem en_Eok {n L : Nat} (h : en_nd n = true) : xm_Eok (en n L) := by
  constructor
  · intro a h1 h2
    have e1 : (en n L).1 a = if a = (40, 0, 0) then (110, L) else match en_f n a with | some q => q.2 | none => (200, 0) := rfl
    rcases Classical.em (a = (40, 0, 0)) with ha | ha
    · rw [e1, if_pos ha] at h2
      exact absurd rfl h2
    · rw [e1, if_neg ha] at h1
      cases hf : en_f n a with
      | none =>
        rw [hf] at h1
        exact absurd h1 (by decide)
      | some q =>
        have hm := List.find?_some hf
        have hmem := List.mem_of_find?_eq_some hf
        have hy : en_y n a = true := by
          unfold en_y
          rw [List.any_eq_true]
          exact ⟨q, hmem, hm⟩
        have hlt : en_x n a < (sh_l n).length := by
          unfold en_x
          rw [List.findIdx_lt_length]
          exact ⟨q, hmem, hm⟩
        have e2 : (en n L).2.1 a = en_x n a := if_pos hy
        rw [e2]
        show (match (sh_l n)[en_x n a]? with | some q => q.1 | none => (50, en_x n a, 0)) = a
        rw [List.getElem?_eq_getElem hlt]
        have := List.findIdx_getElem (w := hlt)
        exact beq_iff_eq.mp this
  · intro k
    show (if en_y n ((en n L).2.2 k) = true then en_x n ((en n L).2.2 k) else ((en n L).2.2 k).2.1) = k
    have e3 : (en n L).2.2 k = match (sh_l n)[k]? with | some q => q.1 | none => (50, k, 0) := rfl
    cases hq : (sh_l n)[k]? with
    | none =>
      rw [hq] at e3
      rw [e3, (en_out (k := k) h).1]
      rfl
    | some q =>
      rw [hq] at e3
      rw [e3]
      unfold en_nd at h
      rw [Bool.and_eq_true] at h
      have hk : k < (sh_l n).length := (List.getElem?_eq_some_iff.mp hq).1
      have h3 := List.all_eq_true.mp h.1 k (List.mem_range.mpr hk)
      rw [hq] at h3
      have h4 := Bool.and_eq_true_iff.mp h3
      show (if en_y n q.1 = true then en_x n q.1 else q.1.2.1) = k
      rw [if_pos h4.1]
      exact beq_iff_eq.mp h4.2
theorem en_hx {n L k : Nat} (h : en_nd n = true) (hk : (sh_l n).length ≤ k) : 200 ≤ ((en n L).1 ((en n L).2.2 k)).1 := by
  have e3 : (en n L).2.2 k = (50, k, 0) := by
    show (match (sh_l n)[k]? with | some q => q.1 | none => (50, k, 0)) = _
    rw [List.getElem?_eq_none hk]
  rw [e3]
  show 200 ≤ (if ((50, k, 0) : xm_I) = (40, 0, 0) then (110, L) else match en_f n (50, k, 0) with | some q => q.2 | none => (200, 0)).1
  rw [if_neg (by simp), (en_out h).2]
  exact Nat.le_refl 200
theorem en_sc {n L : Nat} : (en n L).1 (40, 0, 0) = (110, L) := rfl
theorem en_110 {n L : Nat} (h : (sh_l n).all (fun q => q.2.1 != 110) = true) : ∀ a, ((en n L).1 a).1 = 110 → a = (40, 0, 0) := by
  intro a ha
  rcases Classical.em (a = (40, 0, 0)) with h1 | h1
  · exact h1
  · have e1 : (en n L).1 a = match en_f n a with | some q => q.2 | none => (200, 0) := if_neg h1
    rw [e1] at ha
    cases hf : en_f n a with
    | none => rw [hf] at ha; exact absurd ha (by decide)
    | some q =>
      rw [hf] at ha
      have hmem := List.mem_of_find?_eq_some hf
      have := List.all_eq_true.mp h q hmem
      rw [bne_iff_ne] at this
      exact absurd ha this
theorem ct_61 {E : xm_E} {c : Nat × Nat} {fi : FI} {fl : FL} {r : xm_I → Nat → Option xm_I} {d : Nat} {a b : xm_I} {x : Int32} {m : Nat} (hx : x = nI m) (hm : m ≤ 60000) (ha : E.2.2 c.1 = b) (hk : E.1 b = (100, m)) (hok : go_ok E (c.1 + 1, c.2 + m) a 4 0) : xm_C E (d + 1) true 61 [xm_r a, xm_i x] (c, fi, fl, r) (.inl none, ((c.1 + 1, c.2 + m), fi, fl, xm_up r a 0 (some b))) := by
  refine go_inr (by decide) (Nat.le_of_ble_eq_true rfl) ?_
  show xm_G E (d + 0) true 61 0 [some (xm_r a), some (xm_i x)] [] (c, fi, fl, r) _
  refine pg_61_0 rfl ?_
  refine pg_61_1 (Nat.le_of_ble_eq_true rfl) ?_
  refine pg_61_4 rfl ?_
  refine pg_61_5 rfl ?_
  refine pg_61_6 hx hm ha hk ?_
  refine pg_61_8 hok ?_
  exact pg_61_11
theorem ct_35 {E : xm_E} {c : Nat × Nat} {fi : FI} {fl : FL} {r : xm_I → Nat → Option xm_I} {d : Nat} {a : xm_I} {x : Int32} (hok : go_ok E c a 1 0) : xm_C E (d + 1) true 35 [xm_r a, xm_i x] (c, fi, fl, r) (.inl none, (c, xm_up fi a 0 x, xm_up fl a 2 65536, r)) := by
  refine go_inr (by decide) (Nat.le_of_ble_eq_true rfl) ?_
  show xm_G E (d + 0) true 35 0 [some (xm_r a), some (xm_i x)] [] (c, fi, fl, r) _
  refine pg_35_0 rfl ?_
  refine pg_35_1 (Nat.le_of_ble_eq_true rfl) ?_
  refine pg_35_4 rfl ?_
  refine pg_35_5 ?_
  refine pg_35_8 hok ?_
  refine pg_35_11 rfl ?_
  refine pg_35_12 rfl ?_
  refine pg_35_13 hok ?_
  exact pg_35_16
