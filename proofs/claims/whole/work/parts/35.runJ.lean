/-! Lines through the helpers of the law. Written by wip/whole/prog. -/
theorem ct_127v0 {n : Nat} {E : xm_E} {c : Nat × Nat} {fi : FI} {fl : FL} {r : xm_I → Nat → Option xm_I} {d : Nat} {p : Nat} {y : Int32} (hs : sh n E c r) (hp : p < n) : xm_C E (d + 3) true 127 [xm_r (0, 0, 0), xm_i (nI p), xm_i y, xm_r (30, 0, 0)] (c, fi, fl, r) (.inl (some (xm_i (0 : Int32))), (c, (xm_up fi (7, p, 0) 2 y), (xm_up fl (30, 0, 0) 0 ((fi (7, p, 0) 2).toInt64)), r)) := by
  have hn := sh_n hs
  suffices key : ∀ R : xm_O, ((.inl (some (xm_i (0 : Int32))), (c, (xm_up fi (7, p, 0) 2 y), (xm_up fl (30, 0, 0) 0 ((fi (7, p, 0) 2).toInt64)), r)) : xm_O) = R → xm_G E (d + 2) true 127 0 [some (xm_r (0, 0, 0)), some (xm_i (nI p)), some (xm_i y), some (xm_r (30, 0, 0)), none] [] (c, fi, fl, r) R from go_inr (by decide) (Nat.le_of_ble_eq_true rfl) (key _ rfl)
  intro R hR
  refine pg_127_0 rfl ?_
  refine pg_127_1 ?_
  refine pg_127_2 rfl ?_
  refine pg_127_3 rfl ?_
  refine pg_127_4 rfl ?_
  refine pg_127_5 (sk0 hs) (Nat.le_of_ble_eq_true rfl) (ct_7v0 (p := p) (y := y) hs (by omega)) ?_
  refine pg_127_8 ?_
  refine pg_127_9 (sk30 hs) (i := 0) (rfl : (0 : Int32) = nI 0) (by omega) (by omega) ?_
  refine pg_127_10 ?_
  refine pg_127_17 ?_
  exact go_eq hR.symm (pg_127_18)
theorem ct_127i0 {n : Nat} {E : xm_E} {c : Nat × Nat} {fi : FI} {fl : FL} {r : xm_I → Nat → Option xm_I} {d : Nat} {x : Int32} {y : Int32} (hs : sh n E c r) (hx : 200 ≤ (E.1 (E.2.2 c.1)).1) (v5_g0 : (bI (sp_8 n x)) = 0) : xm_C E (d + 6) true 127 [xm_r (0, 0, 0), xm_i x, xm_i y, xm_r (30, 0, 0)] (c, fi, fl, r) (.inl (some (xm_i (1 : Int32))), ((c.1 + 1, c.2 + 6), fi, fl, r)) := by
  have hn := sh_n hs
  suffices key : ∀ R : xm_O, ((.inl (some (xm_i (1 : Int32))), ((c.1 + 1, c.2 + 6), fi, fl, r)) : xm_O) = R → xm_G E (d + 5) true 127 0 [some (xm_r (0, 0, 0)), some (xm_i x), some (xm_i y), some (xm_r (30, 0, 0)), none] [] (c, fi, fl, r) R from go_inr (by decide) (Nat.le_of_ble_eq_true rfl) (key _ rfl)
  intro R hR
  refine pg_127_0 rfl ?_
  refine pg_127_1 ?_
  refine pg_127_2 rfl ?_
  refine pg_127_3 rfl ?_
  refine pg_127_4 rfl ?_
  refine pt_127_5 (sk0 hs) (Nat.le_of_ble_eq_true rfl) (ct_7i0 (x := x) (y := y) hs hx v5_g0) (show xm_hd 127 5 0 = some 13 by decide +kernel) ?_
  show xm_G E _ true 127 13 _ _ ((c.1 + 1, c.2 + 6), fi, fl, r) R
  refine pg_127_13 (lv' := [some (xm_r (0, 0, 0)), some (xm_i x), some (xm_i y), some (xm_r (30, 0, 0)), some (xm_r (E.2.2 c.1))]) rfl ?_
  refine pg_127_15 ?_
  exact go_eq hR.symm (pg_127_16)
theorem ct_128l0 {n : Nat} {E : xm_E} {c : Nat × Nat} {fi : FI} {fl : FL} {r : xm_I → Nat → Option xm_I} {d : Nat} {x : Int32} {y : Int32} {z : Int32} (hs : sh n E c r) (hx : 200 ≤ (E.1 (E.2.2 c.1)).1) (v4_g0 : (bI (sp_10 x)) = 0) : xm_C E (d + 6) true 128 [xm_r (0, 0, 0), xm_i x, xm_i y, xm_i z] (c, fi, fl, r) (.inl (some (xm_i (1 : Int32))), ((c.1 + 1, c.2 + 6), fi, fl, r)) := by
  have hn := sh_n hs
  suffices key : ∀ R : xm_O, ((.inl (some (xm_i (1 : Int32))), ((c.1 + 1, c.2 + 6), fi, fl, r)) : xm_O) = R → xm_G E (d + 5) true 128 0 [some (xm_r (0, 0, 0)), some (xm_i x), some (xm_i y), some (xm_i z), none] [] (c, fi, fl, r) R from go_inr (by decide) (Nat.le_of_ble_eq_true rfl) (key _ rfl)
  intro R hR
  refine pg_128_0 rfl ?_
  refine pg_128_1 rfl ?_
  refine pg_128_2 rfl ?_
  refine pg_128_3 rfl ?_
  refine pt_128_4 (sk0 hs) (Nat.le_of_ble_eq_true rfl) (ct_9l0 (x := x) (y := y) (z := z) hs hx v4_g0) (show xm_hd 128 4 0 = some 10 by decide +kernel) ?_
  show xm_G E _ true 128 10 _ _ ((c.1 + 1, c.2 + 6), fi, fl, r) R
  refine pg_128_10 (lv' := [some (xm_r (0, 0, 0)), some (xm_i x), some (xm_i y), some (xm_i z), some (xm_r (E.2.2 c.1))]) rfl ?_
  refine pg_128_12 ?_
  exact go_eq hR.symm (pg_128_13)
theorem ct_128l1 {n : Nat} {E : xm_E} {c : Nat × Nat} {fi : FI} {fl : FL} {r : xm_I → Nat → Option xm_I} {d : Nat} {x : Int32} {y : Int32} {z : Int32} (hs : sh n E c r) (hx : 200 ≤ (E.1 (E.2.2 c.1)).1) (v4_g0 : ¬ (bI (sp_10 x)) = 0) (v4_g1 : (bI (sp_10 y)) = 0) : xm_C E (d + 6) true 128 [xm_r (0, 0, 0), xm_i x, xm_i y, xm_i z] (c, fi, fl, r) (.inl (some (xm_i (1 : Int32))), ((c.1 + 1, c.2 + 6), fi, fl, r)) := by
  have hn := sh_n hs
  suffices key : ∀ R : xm_O, ((.inl (some (xm_i (1 : Int32))), ((c.1 + 1, c.2 + 6), fi, fl, r)) : xm_O) = R → xm_G E (d + 5) true 128 0 [some (xm_r (0, 0, 0)), some (xm_i x), some (xm_i y), some (xm_i z), none] [] (c, fi, fl, r) R from go_inr (by decide) (Nat.le_of_ble_eq_true rfl) (key _ rfl)
  intro R hR
  refine pg_128_0 rfl ?_
  refine pg_128_1 rfl ?_
  refine pg_128_2 rfl ?_
  refine pg_128_3 rfl ?_
  refine pt_128_4 (sk0 hs) (Nat.le_of_ble_eq_true rfl) (ct_9l1 (x := x) (y := y) (z := z) hs hx v4_g0 v4_g1) (show xm_hd 128 4 0 = some 10 by decide +kernel) ?_
  show xm_G E _ true 128 10 _ _ ((c.1 + 1, c.2 + 6), fi, fl, r) R
  refine pg_128_10 (lv' := [some (xm_r (0, 0, 0)), some (xm_i x), some (xm_i y), some (xm_i z), some (xm_r (E.2.2 c.1))]) rfl ?_
  refine pg_128_12 ?_
  exact go_eq hR.symm (pg_128_13)
theorem ct_128l2 {n : Nat} {E : xm_E} {c : Nat × Nat} {fi : FI} {fl : FL} {r : xm_I → Nat → Option xm_I} {d : Nat} {x : Int32} {y : Int32} {z : Int32} (hs : sh n E c r) (hx : 200 ≤ (E.1 (E.2.2 c.1)).1) (v4_g0 : ¬ (bI (sp_10 x)) = 0) (v4_g1 : ¬ (bI (sp_10 y)) = 0) (v4_g2 : (bI (sp_10 z)) = 0) : xm_C E (d + 6) true 128 [xm_r (0, 0, 0), xm_i x, xm_i y, xm_i z] (c, fi, fl, r) (.inl (some (xm_i (1 : Int32))), ((c.1 + 1, c.2 + 6), fi, fl, r)) := by
  have hn := sh_n hs
  suffices key : ∀ R : xm_O, ((.inl (some (xm_i (1 : Int32))), ((c.1 + 1, c.2 + 6), fi, fl, r)) : xm_O) = R → xm_G E (d + 5) true 128 0 [some (xm_r (0, 0, 0)), some (xm_i x), some (xm_i y), some (xm_i z), none] [] (c, fi, fl, r) R from go_inr (by decide) (Nat.le_of_ble_eq_true rfl) (key _ rfl)
  intro R hR
  refine pg_128_0 rfl ?_
  refine pg_128_1 rfl ?_
  refine pg_128_2 rfl ?_
  refine pg_128_3 rfl ?_
  refine pt_128_4 (sk0 hs) (Nat.le_of_ble_eq_true rfl) (ct_9l2 (x := x) (y := y) (z := z) hs hx v4_g0 v4_g1 v4_g2) (show xm_hd 128 4 0 = some 10 by decide +kernel) ?_
  show xm_G E _ true 128 10 _ _ ((c.1 + 1, c.2 + 6), fi, fl, r) R
  refine pg_128_10 (lv' := [some (xm_r (0, 0, 0)), some (xm_i x), some (xm_i y), some (xm_i z), some (xm_r (E.2.2 c.1))]) rfl ?_
  refine pg_128_12 ?_
  exact go_eq hR.symm (pg_128_13)
theorem ct_128l3 {n : Nat} {E : xm_E} {c : Nat × Nat} {fi : FI} {fl : FL} {r : xm_I → Nat → Option xm_I} {d : Nat} {x : Int32} {y : Int32} {z : Int32} (hs : sh n E c r) (v4_g0 : ¬ (bI (sp_10 x)) = 0) (v4_g1 : ¬ (bI (sp_10 y)) = 0) (v4_g2 : ¬ (bI (sp_10 z)) = 0) : xm_C E (d + 3) true 128 [xm_r (0, 0, 0), xm_i x, xm_i y, xm_i z] (c, fi, fl, r) (.inl (some (xm_i (0 : Int32))), (c, fi, (xm_up (xm_up (xm_up fl (1, 0, 0) 2 (x.toInt64)) (1, 0, 0) 3 (y.toInt64)) (1, 0, 0) 4 (z.toInt64)), r)) := by
  have hn := sh_n hs
  suffices key : ∀ R : xm_O, ((.inl (some (xm_i (0 : Int32))), (c, fi, (xm_up (xm_up (xm_up fl (1, 0, 0) 2 (x.toInt64)) (1, 0, 0) 3 (y.toInt64)) (1, 0, 0) 4 (z.toInt64)), r)) : xm_O) = R → xm_G E (d + 2) true 128 0 [some (xm_r (0, 0, 0)), some (xm_i x), some (xm_i y), some (xm_i z), none] [] (c, fi, fl, r) R from go_inr (by decide) (Nat.le_of_ble_eq_true rfl) (key _ rfl)
  intro R hR
  refine pg_128_0 rfl ?_
  refine pg_128_1 rfl ?_
  refine pg_128_2 rfl ?_
  refine pg_128_3 rfl ?_
  refine pg_128_4 (sk0 hs) (Nat.le_of_ble_eq_true rfl) (ct_9l3 (x := x) (y := y) (z := z) hs v4_g0 v4_g1 v4_g2) ?_
  refine pg_128_7 ?_
  refine pg_128_14 ?_
  exact go_eq hR.symm (pg_128_15)
theorem ct_129v0 {n : Nat} {E : xm_E} {c : Nat × Nat} {fi : FI} {fl : FL} {r : xm_I → Nat → Option xm_I} {d : Nat} {p : Nat} {x : Int32} {y : Int64} (hs : sh n E c r) (hp : p < n) (hx : 200 ≤ (E.1 (E.2.2 c.1)).1) (v4_g0 : x < 0) : xm_C E (d + 6) true 129 [xm_r (0, 0, 0), xm_i (nI p), xm_i x, xm_l y] (c, fi, fl, r) (.inl (some (xm_i (1 : Int32))), ((c.1 + 1, c.2 + 6), fi, fl, r)) := by
  have hn := sh_n hs
  suffices key : ∀ R : xm_O, ((.inl (some (xm_i (1 : Int32))), ((c.1 + 1, c.2 + 6), fi, fl, r)) : xm_O) = R → xm_G E (d + 5) true 129 0 [some (xm_r (0, 0, 0)), some (xm_i (nI p)), some (xm_i x), some (xm_l y), none, none] [] (c, fi, fl, r) R from go_inr (by decide) (Nat.le_of_ble_eq_true rfl) (key _ rfl)
  intro R hR
  refine pg_129_0 rfl ?_
  refine pg_129_1 rfl ?_
  refine pg_129_2 rfl ?_
  refine pg_129_3 rfl ?_
  refine pt_129_4 (sk0 hs) (Nat.le_of_ble_eq_true rfl) (ct_11v0 (p := p) (x := x) (y := y) hs (by omega) hx v4_g0) (show xm_hd 129 4 0 = some 10 by decide +kernel) ?_
  show xm_G E _ true 129 10 _ _ ((c.1 + 1, c.2 + 6), fi, fl, r) R
  refine pg_129_10 (lv' := [some (xm_r (0, 0, 0)), some (xm_i (nI p)), some (xm_i x), some (xm_l y), none, some (xm_r (E.2.2 c.1))]) rfl ?_
  refine pg_129_12 ?_
  exact go_eq hR.symm (pg_129_13)
theorem ct_129v1 {n : Nat} {E : xm_E} {c : Nat × Nat} {fi : FI} {fl : FL} {r : xm_I → Nat → Option xm_I} {d : Nat} {p : Nat} {x : Int32} {y : Int64} (hs : sh n E c r) (hp : p < n) (v4_g0 : ¬ x < 0) (v4_g1 : x ≤ (4 : Int32)) : xm_C E (d + 3) true 129 [xm_r (0, 0, 0), xm_i (nI p), xm_i x, xm_l y] (c, fi, fl, r) (.inl (some (xm_i (0 : Int32))), (c, (xm_up fi (3, 0, 0) p x), (xm_up fl (4, 0, 0) p y), r)) := by
  have hn := sh_n hs
  suffices key : ∀ R : xm_O, ((.inl (some (xm_i (0 : Int32))), (c, (xm_up fi (3, 0, 0) p x), (xm_up fl (4, 0, 0) p y), r)) : xm_O) = R → xm_G E (d + 2) true 129 0 [some (xm_r (0, 0, 0)), some (xm_i (nI p)), some (xm_i x), some (xm_l y), none, none] [] (c, fi, fl, r) R from go_inr (by decide) (Nat.le_of_ble_eq_true rfl) (key _ rfl)
  intro R hR
  refine pg_129_0 rfl ?_
  refine pg_129_1 rfl ?_
  refine pg_129_2 rfl ?_
  refine pg_129_3 rfl ?_
  refine pg_129_4 (sk0 hs) (Nat.le_of_ble_eq_true rfl) (ct_11v1 (p := p) (x := x) (y := y) hs (by omega) v4_g0 v4_g1) ?_
  refine pg_129_7 ?_
  refine pg_129_14 ?_
  exact go_eq hR.symm (pg_129_15)
theorem ct_129v2 {n : Nat} {E : xm_E} {c : Nat × Nat} {fi : FI} {fl : FL} {r : xm_I → Nat → Option xm_I} {d : Nat} {p : Nat} {x : Int32} {y : Int64} (hs : sh n E c r) (hp : p < n) (hx : 200 ≤ (E.1 (E.2.2 c.1)).1) (v4_g0 : ¬ x < 0) (v4_g1 : ¬ x ≤ (4 : Int32)) : xm_C E (d + 6) true 129 [xm_r (0, 0, 0), xm_i (nI p), xm_i x, xm_l y] (c, fi, fl, r) (.inl (some (xm_i (1 : Int32))), ((c.1 + 1, c.2 + 6), fi, fl, r)) := by
  have hn := sh_n hs
  suffices key : ∀ R : xm_O, ((.inl (some (xm_i (1 : Int32))), ((c.1 + 1, c.2 + 6), fi, fl, r)) : xm_O) = R → xm_G E (d + 5) true 129 0 [some (xm_r (0, 0, 0)), some (xm_i (nI p)), some (xm_i x), some (xm_l y), none, none] [] (c, fi, fl, r) R from go_inr (by decide) (Nat.le_of_ble_eq_true rfl) (key _ rfl)
  intro R hR
  refine pg_129_0 rfl ?_
  refine pg_129_1 rfl ?_
  refine pg_129_2 rfl ?_
  refine pg_129_3 rfl ?_
  refine pt_129_4 (sk0 hs) (Nat.le_of_ble_eq_true rfl) (ct_11v2 (p := p) (x := x) (y := y) hs (by omega) hx v4_g0 v4_g1) (show xm_hd 129 4 0 = some 10 by decide +kernel) ?_
  show xm_G E _ true 129 10 _ _ ((c.1 + 1, c.2 + 6), fi, fl, r) R
  refine pg_129_10 (lv' := [some (xm_r (0, 0, 0)), some (xm_i (nI p)), some (xm_i x), some (xm_l y), none, some (xm_r (E.2.2 c.1))]) rfl ?_
  refine pg_129_12 ?_
  exact go_eq hR.symm (pg_129_13)
theorem ct_129i0 {n : Nat} {E : xm_E} {c : Nat × Nat} {fi : FI} {fl : FL} {r : xm_I → Nat → Option xm_I} {d : Nat} {x : Int32} {y : Int32} {z : Int64} (hs : sh n E c r) (hx : 200 ≤ (E.1 (E.2.2 c.1)).1) (v4_g0 : (bI (sp_8 n x)) = 0) : xm_C E (d + 6) true 129 [xm_r (0, 0, 0), xm_i x, xm_i y, xm_l z] (c, fi, fl, r) (.inl (some (xm_i (1 : Int32))), ((c.1 + 1, c.2 + 6), fi, fl, r)) := by
  have hn := sh_n hs
  suffices key : ∀ R : xm_O, ((.inl (some (xm_i (1 : Int32))), ((c.1 + 1, c.2 + 6), fi, fl, r)) : xm_O) = R → xm_G E (d + 5) true 129 0 [some (xm_r (0, 0, 0)), some (xm_i x), some (xm_i y), some (xm_l z), none, none] [] (c, fi, fl, r) R from go_inr (by decide) (Nat.le_of_ble_eq_true rfl) (key _ rfl)
  intro R hR
  refine pg_129_0 rfl ?_
  refine pg_129_1 rfl ?_
  refine pg_129_2 rfl ?_
  refine pg_129_3 rfl ?_
  refine pt_129_4 (sk0 hs) (Nat.le_of_ble_eq_true rfl) (ct_11i0 (x := x) (y := y) (z := z) hs hx v4_g0) (show xm_hd 129 4 0 = some 10 by decide +kernel) ?_
  show xm_G E _ true 129 10 _ _ ((c.1 + 1, c.2 + 6), fi, fl, r) R
  refine pg_129_10 (lv' := [some (xm_r (0, 0, 0)), some (xm_i x), some (xm_i y), some (xm_l z), none, some (xm_r (E.2.2 c.1))]) rfl ?_
  refine pg_129_12 ?_
  exact go_eq hR.symm (pg_129_13)
theorem ct_129i1 {n : Nat} {E : xm_E} {c : Nat × Nat} {fi : FI} {fl : FL} {r : xm_I → Nat → Option xm_I} {d : Nat} {x : Int32} {y : Int32} {z : Int64} (hs : sh n E c r) (hx : 200 ≤ (E.1 (E.2.2 c.1)).1) (v4_g0 : ¬ (bI (sp_8 n x)) = 0) (v4_g1 : y < 0) : xm_C E (d + 6) true 129 [xm_r (0, 0, 0), xm_i x, xm_i y, xm_l z] (c, fi, fl, r) (.inl (some (xm_i (1 : Int32))), ((c.1 + 1, c.2 + 6), fi, fl, r)) := by
  have hn := sh_n hs
  suffices key : ∀ R : xm_O, ((.inl (some (xm_i (1 : Int32))), ((c.1 + 1, c.2 + 6), fi, fl, r)) : xm_O) = R → xm_G E (d + 5) true 129 0 [some (xm_r (0, 0, 0)), some (xm_i x), some (xm_i y), some (xm_l z), none, none] [] (c, fi, fl, r) R from go_inr (by decide) (Nat.le_of_ble_eq_true rfl) (key _ rfl)
  intro R hR
  refine pg_129_0 rfl ?_
  refine pg_129_1 rfl ?_
  refine pg_129_2 rfl ?_
  refine pg_129_3 rfl ?_
  refine pt_129_4 (sk0 hs) (Nat.le_of_ble_eq_true rfl) (ct_11i1 (x := x) (y := y) (z := z) hs hx v4_g0 v4_g1) (show xm_hd 129 4 0 = some 10 by decide +kernel) ?_
  show xm_G E _ true 129 10 _ _ ((c.1 + 1, c.2 + 6), fi, fl, r) R
  refine pg_129_10 (lv' := [some (xm_r (0, 0, 0)), some (xm_i x), some (xm_i y), some (xm_l z), none, some (xm_r (E.2.2 c.1))]) rfl ?_
  refine pg_129_12 ?_
  exact go_eq hR.symm (pg_129_13)
theorem ct_129i2 {n : Nat} {E : xm_E} {c : Nat × Nat} {fi : FI} {fl : FL} {r : xm_I → Nat → Option xm_I} {d : Nat} {x : Int32} {y : Int32} {z : Int64} (hs : sh n E c r) (hx : 200 ≤ (E.1 (E.2.2 c.1)).1) (v4_g0 : ¬ (bI (sp_8 n x)) = 0) (v4_g1 : ¬ y < 0) (v4_g2 : ¬ y ≤ (4 : Int32)) : xm_C E (d + 6) true 129 [xm_r (0, 0, 0), xm_i x, xm_i y, xm_l z] (c, fi, fl, r) (.inl (some (xm_i (1 : Int32))), ((c.1 + 1, c.2 + 6), fi, fl, r)) := by
  have hn := sh_n hs
  suffices key : ∀ R : xm_O, ((.inl (some (xm_i (1 : Int32))), ((c.1 + 1, c.2 + 6), fi, fl, r)) : xm_O) = R → xm_G E (d + 5) true 129 0 [some (xm_r (0, 0, 0)), some (xm_i x), some (xm_i y), some (xm_l z), none, none] [] (c, fi, fl, r) R from go_inr (by decide) (Nat.le_of_ble_eq_true rfl) (key _ rfl)
  intro R hR
  refine pg_129_0 rfl ?_
  refine pg_129_1 rfl ?_
  refine pg_129_2 rfl ?_
  refine pg_129_3 rfl ?_
  refine pt_129_4 (sk0 hs) (Nat.le_of_ble_eq_true rfl) (ct_11i2 (x := x) (y := y) (z := z) hs hx v4_g0 v4_g1 v4_g2) (show xm_hd 129 4 0 = some 10 by decide +kernel) ?_
  show xm_G E _ true 129 10 _ _ ((c.1 + 1, c.2 + 6), fi, fl, r) R
  refine pg_129_10 (lv' := [some (xm_r (0, 0, 0)), some (xm_i x), some (xm_i y), some (xm_l z), none, some (xm_r (E.2.2 c.1))]) rfl ?_
  refine pg_129_12 ?_
  exact go_eq hR.symm (pg_129_13)
theorem ct_130v0 {n : Nat} {E : xm_E} {c : Nat × Nat} {fi : FI} {fl : FL} {r : xm_I → Nat → Option xm_I} {d : Nat} {p : Nat} (hs : sh n E c r) (hp : p < n) : xm_C E (d + 3) true 130 [xm_r (0, 0, 0), xm_i (nI p), xm_r (30, 0, 0)] (c, fi, fl, r) (.inl (some (xm_i (0 : Int32))), (c, ((sp_44 fi p).2), (xm_up fl (30, 0, 0) 0 (if (bI ((sp_44 fi p).1)) = 0 then (0 : Int64) else (1 : Int64))), r)) := by
  have hn := sh_n hs
  suffices key : ∀ R : xm_O, ((.inl (some (xm_i (0 : Int32))), (c, ((sp_44 fi p).2), (xm_up fl (30, 0, 0) 0 (if (bI ((sp_44 fi p).1)) = 0 then (0 : Int64) else (1 : Int64))), r)) : xm_O) = R → xm_G E (d + 2) true 130 0 [some (xm_r (0, 0, 0)), some (xm_i (nI p)), some (xm_r (30, 0, 0)), none] [] (c, fi, fl, r) R from go_inr (by decide) (Nat.le_of_ble_eq_true rfl) (key _ rfl)
  intro R hR
  refine pg_130_0 rfl ?_
  refine pg_130_1 ?_
  refine pg_130_2 rfl ?_
  refine pg_130_3 rfl ?_
  refine pg_130_4 (sk0 hs) (Nat.le_of_ble_eq_true rfl) (ct_12v0 (p := p) hs (by omega)) ?_
  suffices KJ : xm_G E (d + 2) true 130 15 [some (xm_r (0, 0, 0)), some (xm_i (nI p)), some (xm_r (30, 0, 0)), none] [xm_l (if (bI ((sp_44 fi p).1)) = 0 then (0 : Int64) else (1 : Int64)), xm_i (0 : Int32), xm_r (30, 0, 0)] (c, ((sp_44 fi p).2), fl, r) R by
    refine pg_130_7 (fun hc1 => ?_) (fun hc2 => ?_)
    · refine pg_130_14 ?_
      repeat rw [if_pos hc1] at KJ
      repeat rw [if_pos hc1]
      exact KJ
    · refine pg_130_10 ?_
      refine pg_130_11 ?_
      repeat rw [if_neg hc2] at KJ
      repeat rw [if_neg hc2]
      exact KJ
  refine pg_130_15 (sk30 hs) (i := 0) (rfl : (0 : Int32) = nI 0) (by omega) (by omega) ?_
  refine pg_130_16 ?_
  refine pg_130_22 ?_
  exact go_eq hR.symm (pg_130_23)
theorem ct_130i0 {n : Nat} {E : xm_E} {c : Nat × Nat} {fi : FI} {fl : FL} {r : xm_I → Nat → Option xm_I} {d : Nat} {x : Int32} (hs : sh n E c r) (hx : 200 ≤ (E.1 (E.2.2 c.1)).1) (v4_g0 : (bI (sp_8 n x)) = 0) : xm_C E (d + 6) true 130 [xm_r (0, 0, 0), xm_i x, xm_r (30, 0, 0)] (c, fi, fl, r) (.inl (some (xm_i (1 : Int32))), ((c.1 + 1, c.2 + 6), fi, fl, r)) := by
  have hn := sh_n hs
  suffices key : ∀ R : xm_O, ((.inl (some (xm_i (1 : Int32))), ((c.1 + 1, c.2 + 6), fi, fl, r)) : xm_O) = R → xm_G E (d + 5) true 130 0 [some (xm_r (0, 0, 0)), some (xm_i x), some (xm_r (30, 0, 0)), none] [] (c, fi, fl, r) R from go_inr (by decide) (Nat.le_of_ble_eq_true rfl) (key _ rfl)
  intro R hR
  refine pg_130_0 rfl ?_
  refine pg_130_1 ?_
  refine pg_130_2 rfl ?_
  refine pg_130_3 rfl ?_
  refine pt_130_4 (sk0 hs) (Nat.le_of_ble_eq_true rfl) (ct_12i0 (x := x) hs hx v4_g0) (show xm_hd 130 4 0 = some 19 by decide +kernel) ?_
  show xm_G E _ true 130 19 _ _ ((c.1 + 1, c.2 + 6), fi, fl, r) R
  refine pg_130_19 (lv' := [some (xm_r (0, 0, 0)), some (xm_i x), some (xm_r (30, 0, 0)), some (xm_r (E.2.2 c.1))]) rfl ?_
  refine pg_130_20 ?_
  exact go_eq hR.symm (pg_130_21)
theorem ct_132v0 {n : Nat} {E : xm_E} {c : Nat × Nat} {fi : FI} {fl : FL} {r : xm_I → Nat → Option xm_I} {d : Nat} {p : Nat} {o : Nat} (hs : sh n E c r) (hp : p < n) (ho : o < n) (hx : 200 ≤ (E.1 (E.2.2 c.1)).1) (v5_g0 : (fi (7, p, 0) 10) = 0) : xm_C E (d + 6) true 132 [xm_r (0, 0, 0), xm_i (nI p), xm_i (nI o), xm_r (30, 0, 0)] (c, fi, fl, r) (.inl (some (xm_i (2 : Int32))), ((c.1 + 1, c.2 + 6), fi, fl, r)) := by
  have hn := sh_n hs
  suffices key : ∀ R : xm_O, ((.inl (some (xm_i (2 : Int32))), ((c.1 + 1, c.2 + 6), fi, fl, r)) : xm_O) = R → xm_G E (d + 5) true 132 0 [some (xm_r (0, 0, 0)), some (xm_i (nI p)), some (xm_i (nI o)), some (xm_r (30, 0, 0)), none] [] (c, fi, fl, r) R from go_inr (by decide) (Nat.le_of_ble_eq_true rfl) (key _ rfl)
  intro R hR
  refine pg_132_0 rfl ?_
  refine pg_132_1 ?_
  refine pg_132_2 rfl ?_
  refine pg_132_3 rfl ?_
  refine pg_132_4 rfl ?_
  refine pt_132_5 (sk0 hs) (Nat.le_of_ble_eq_true rfl) (ct_25v0 (p := p) (o := o) hs (by omega) (by omega) hx v5_g0) (show xm_hd 132 5 1 = some 17 by decide +kernel) ?_
  show xm_G E _ true 132 17 _ _ ((c.1 + 1, c.2 + 6), fi, fl, r) R
  refine pg_132_17 (lv' := [some (xm_r (0, 0, 0)), some (xm_i (nI p)), some (xm_i (nI o)), some (xm_r (30, 0, 0)), some (xm_r (E.2.2 c.1))]) rfl ?_
  refine pg_132_19 ?_
  exact go_eq hR.symm (pg_132_20)
theorem ct_132v1 {n : Nat} {E : xm_E} {c : Nat × Nat} {fi : FI} {fl : FL} {r : xm_I → Nat → Option xm_I} {d : Nat} {p : Nat} {o : Nat} (hs : sh n E c r) (hp : p < n) (ho : o < n) (hx : 200 ≤ (E.1 (E.2.2 c.1)).1) (v5_g0 : ¬ (fi (7, p, 0) 10) = 0) (v5_g1 : (bI (sp_64 fi p 1 o)) = 0) : xm_C E (d + 6) true 132 [xm_r (0, 0, 0), xm_i (nI p), xm_i (nI o), xm_r (30, 0, 0)] (c, fi, fl, r) (.inl (some (xm_i (3 : Int32))), ((c.1 + 1, c.2 + 6), fi, fl, r)) := by
  have hn := sh_n hs
  suffices key : ∀ R : xm_O, ((.inl (some (xm_i (3 : Int32))), ((c.1 + 1, c.2 + 6), fi, fl, r)) : xm_O) = R → xm_G E (d + 5) true 132 0 [some (xm_r (0, 0, 0)), some (xm_i (nI p)), some (xm_i (nI o)), some (xm_r (30, 0, 0)), none] [] (c, fi, fl, r) R from go_inr (by decide) (Nat.le_of_ble_eq_true rfl) (key _ rfl)
  intro R hR
  refine pg_132_0 rfl ?_
  refine pg_132_1 ?_
  refine pg_132_2 rfl ?_
  refine pg_132_3 rfl ?_
  refine pg_132_4 rfl ?_
  refine pt_132_5 (sk0 hs) (Nat.le_of_ble_eq_true rfl) (ct_25v1 (p := p) (o := o) hs (by omega) (by omega) hx v5_g0 v5_g1) (show xm_hd 132 5 2 = some 21 by decide +kernel) ?_
  show xm_G E _ true 132 21 _ _ ((c.1 + 1, c.2 + 6), fi, fl, r) R
  refine pg_132_21 (lv' := [some (xm_r (0, 0, 0)), some (xm_i (nI p)), some (xm_i (nI o)), some (xm_r (30, 0, 0)), some (xm_r (E.2.2 c.1))]) rfl ?_
  refine pg_132_23 ?_
  exact go_eq hR.symm (pg_132_24)
theorem ct_132v2 {n : Nat} {E : xm_E} {c : Nat × Nat} {fi : FI} {fl : FL} {r : xm_I → Nat → Option xm_I} {d : Nat} {p : Nat} {o : Nat} (hs : sh n E c r) (hp : p < n) (ho : o < n) (v5_g0 : ¬ (fi (7, p, 0) 10) = 0) (v5_g1 : ¬ (bI (sp_64 fi p 1 o)) = 0) : xm_C E (d + 3) true 132 [xm_r (0, 0, 0), xm_i (nI p), xm_i (nI o), xm_r (30, 0, 0)] (c, fi, fl, r) (.inl (some (xm_i (0 : Int32))), (c, fi, (xm_up fl (30, 0, 0) 0 ((sp_65 fi p 1 o).toInt64)), r)) := by
  have hn := sh_n hs
  suffices key : ∀ R : xm_O, ((.inl (some (xm_i (0 : Int32))), (c, fi, (xm_up fl (30, 0, 0) 0 ((sp_65 fi p 1 o).toInt64)), r)) : xm_O) = R → xm_G E (d + 2) true 132 0 [some (xm_r (0, 0, 0)), some (xm_i (nI p)), some (xm_i (nI o)), some (xm_r (30, 0, 0)), none] [] (c, fi, fl, r) R from go_inr (by decide) (Nat.le_of_ble_eq_true rfl) (key _ rfl)
  intro R hR
  refine pg_132_0 rfl ?_
  refine pg_132_1 ?_
  refine pg_132_2 rfl ?_
  refine pg_132_3 rfl ?_
  refine pg_132_4 rfl ?_
  refine pg_132_5 (sk0 hs) (Nat.le_of_ble_eq_true rfl) (ct_25v2 (p := p) (o := o) hs (by omega) (by omega) v5_g0 v5_g1) ?_
  refine pg_132_8 ?_
  refine pg_132_9 (sk30 hs) (i := 0) (rfl : (0 : Int32) = nI 0) (by omega) (by omega) ?_
  refine pg_132_10 ?_
  refine pg_132_25 ?_
  exact go_eq hR.symm (pg_132_26)
theorem ct_132j0 {n : Nat} {E : xm_E} {c : Nat × Nat} {fi : FI} {fl : FL} {r : xm_I → Nat → Option xm_I} {d : Nat} {p : Nat} {y : Int32} (hs : sh n E c r) (hp : p < n) (hx : 200 ≤ (E.1 (E.2.2 c.1)).1) (v5_g0 : (bI (sp_8 n y)) = 0) : xm_C E (d + 6) true 132 [xm_r (0, 0, 0), xm_i (nI p), xm_i y, xm_r (30, 0, 0)] (c, fi, fl, r) (.inl (some (xm_i (1 : Int32))), ((c.1 + 1, c.2 + 6), fi, fl, r)) := by
  have hn := sh_n hs
  suffices key : ∀ R : xm_O, ((.inl (some (xm_i (1 : Int32))), ((c.1 + 1, c.2 + 6), fi, fl, r)) : xm_O) = R → xm_G E (d + 5) true 132 0 [some (xm_r (0, 0, 0)), some (xm_i (nI p)), some (xm_i y), some (xm_r (30, 0, 0)), none] [] (c, fi, fl, r) R from go_inr (by decide) (Nat.le_of_ble_eq_true rfl) (key _ rfl)
  intro R hR
  refine pg_132_0 rfl ?_
  refine pg_132_1 ?_
  refine pg_132_2 rfl ?_
  refine pg_132_3 rfl ?_
  refine pg_132_4 rfl ?_
  refine pt_132_5 (sk0 hs) (Nat.le_of_ble_eq_true rfl) (ct_25j0 (p := p) (y := y) hs (by omega) hx v5_g0) (show xm_hd 132 5 0 = some 13 by decide +kernel) ?_
  show xm_G E _ true 132 13 _ _ ((c.1 + 1, c.2 + 6), fi, fl, r) R
  refine pg_132_13 (lv' := [some (xm_r (0, 0, 0)), some (xm_i (nI p)), some (xm_i y), some (xm_r (30, 0, 0)), some (xm_r (E.2.2 c.1))]) rfl ?_
  refine pg_132_15 ?_
  exact go_eq hR.symm (pg_132_16)
theorem ct_132j1 {n : Nat} {E : xm_E} {c : Nat × Nat} {fi : FI} {fl : FL} {r : xm_I → Nat → Option xm_I} {d : Nat} {p : Nat} {y : Int32} (hs : sh n E c r) (hp : p < n) (hx : 200 ≤ (E.1 (E.2.2 c.1)).1) (v5_g0 : ¬ (bI (sp_8 n y)) = 0) (v5_g1 : (fi (7, p, 0) 10) = 0) : xm_C E (d + 6) true 132 [xm_r (0, 0, 0), xm_i (nI p), xm_i y, xm_r (30, 0, 0)] (c, fi, fl, r) (.inl (some (xm_i (2 : Int32))), ((c.1 + 1, c.2 + 6), fi, fl, r)) := by
  have hn := sh_n hs
  suffices key : ∀ R : xm_O, ((.inl (some (xm_i (2 : Int32))), ((c.1 + 1, c.2 + 6), fi, fl, r)) : xm_O) = R → xm_G E (d + 5) true 132 0 [some (xm_r (0, 0, 0)), some (xm_i (nI p)), some (xm_i y), some (xm_r (30, 0, 0)), none] [] (c, fi, fl, r) R from go_inr (by decide) (Nat.le_of_ble_eq_true rfl) (key _ rfl)
  intro R hR
  refine pg_132_0 rfl ?_
  refine pg_132_1 ?_
  refine pg_132_2 rfl ?_
  refine pg_132_3 rfl ?_
  refine pg_132_4 rfl ?_
  refine pt_132_5 (sk0 hs) (Nat.le_of_ble_eq_true rfl) (ct_25j1 (p := p) (y := y) hs (by omega) hx v5_g0 v5_g1) (show xm_hd 132 5 1 = some 17 by decide +kernel) ?_
  show xm_G E _ true 132 17 _ _ ((c.1 + 1, c.2 + 6), fi, fl, r) R
  refine pg_132_17 (lv' := [some (xm_r (0, 0, 0)), some (xm_i (nI p)), some (xm_i y), some (xm_r (30, 0, 0)), some (xm_r (E.2.2 c.1))]) rfl ?_
  refine pg_132_19 ?_
  exact go_eq hR.symm (pg_132_20)
theorem ct_132i0 {n : Nat} {E : xm_E} {c : Nat × Nat} {fi : FI} {fl : FL} {r : xm_I → Nat → Option xm_I} {d : Nat} {x : Int32} {y : Int32} (hs : sh n E c r) (hx : 200 ≤ (E.1 (E.2.2 c.1)).1) (v5_g0 : (bI (sp_8 n x)) = 0) : xm_C E (d + 6) true 132 [xm_r (0, 0, 0), xm_i x, xm_i y, xm_r (30, 0, 0)] (c, fi, fl, r) (.inl (some (xm_i (1 : Int32))), ((c.1 + 1, c.2 + 6), fi, fl, r)) := by
  have hn := sh_n hs
  suffices key : ∀ R : xm_O, ((.inl (some (xm_i (1 : Int32))), ((c.1 + 1, c.2 + 6), fi, fl, r)) : xm_O) = R → xm_G E (d + 5) true 132 0 [some (xm_r (0, 0, 0)), some (xm_i x), some (xm_i y), some (xm_r (30, 0, 0)), none] [] (c, fi, fl, r) R from go_inr (by decide) (Nat.le_of_ble_eq_true rfl) (key _ rfl)
  intro R hR
  refine pg_132_0 rfl ?_
  refine pg_132_1 ?_
  refine pg_132_2 rfl ?_
  refine pg_132_3 rfl ?_
  refine pg_132_4 rfl ?_
  refine pt_132_5 (sk0 hs) (Nat.le_of_ble_eq_true rfl) (ct_25i0 (x := x) (y := y) hs hx v5_g0) (show xm_hd 132 5 0 = some 13 by decide +kernel) ?_
  show xm_G E _ true 132 13 _ _ ((c.1 + 1, c.2 + 6), fi, fl, r) R
  refine pg_132_13 (lv' := [some (xm_r (0, 0, 0)), some (xm_i x), some (xm_i y), some (xm_r (30, 0, 0)), some (xm_r (E.2.2 c.1))]) rfl ?_
  refine pg_132_15 ?_
  exact go_eq hR.symm (pg_132_16)
theorem ct_132i1 {n : Nat} {E : xm_E} {c : Nat × Nat} {fi : FI} {fl : FL} {r : xm_I → Nat → Option xm_I} {d : Nat} {x : Int32} {y : Int32} (hs : sh n E c r) (hx : 200 ≤ (E.1 (E.2.2 c.1)).1) (v5_g0 : ¬ (bI (sp_8 n x)) = 0) (v5_g1 : (bI (sp_8 n y)) = 0) : xm_C E (d + 6) true 132 [xm_r (0, 0, 0), xm_i x, xm_i y, xm_r (30, 0, 0)] (c, fi, fl, r) (.inl (some (xm_i (1 : Int32))), ((c.1 + 1, c.2 + 6), fi, fl, r)) := by
  have hn := sh_n hs
  suffices key : ∀ R : xm_O, ((.inl (some (xm_i (1 : Int32))), ((c.1 + 1, c.2 + 6), fi, fl, r)) : xm_O) = R → xm_G E (d + 5) true 132 0 [some (xm_r (0, 0, 0)), some (xm_i x), some (xm_i y), some (xm_r (30, 0, 0)), none] [] (c, fi, fl, r) R from go_inr (by decide) (Nat.le_of_ble_eq_true rfl) (key _ rfl)
  intro R hR
  refine pg_132_0 rfl ?_
  refine pg_132_1 ?_
  refine pg_132_2 rfl ?_
  refine pg_132_3 rfl ?_
  refine pg_132_4 rfl ?_
  refine pt_132_5 (sk0 hs) (Nat.le_of_ble_eq_true rfl) (ct_25i1 (x := x) (y := y) hs hx v5_g0 v5_g1) (show xm_hd 132 5 0 = some 13 by decide +kernel) ?_
  show xm_G E _ true 132 13 _ _ ((c.1 + 1, c.2 + 6), fi, fl, r) R
  refine pg_132_13 (lv' := [some (xm_r (0, 0, 0)), some (xm_i x), some (xm_i y), some (xm_r (30, 0, 0)), some (xm_r (E.2.2 c.1))]) rfl ?_
  refine pg_132_15 ?_
  exact go_eq hR.symm (pg_132_16)
theorem ct_133v0 {n : Nat} {E : xm_E} {c : Nat × Nat} {fi : FI} {fl : FL} {r : xm_I → Nat → Option xm_I} {d : Nat} {p : Nat} (hs : sh n E c r) (hp : p < n) (hl : fi (7, p, 0) 3 = 0 ∨ fi (7, p, 0) 3 = 1) : xm_C E (d + 3) true 133 [xm_r (0, 0, 0), xm_i (nI p), xm_r (30, 0, 0)] (c, fi, fl, r) (.inl (some (xm_i (0 : Int32))), (c, fi, (xm_up fl (30, 0, 0) 0 (if (fi (7, p, 0) 3) = 0 then (0 : Int64) else (1 : Int64))), r)) := by
  have hn := sh_n hs
  suffices key : ∀ R : xm_O, ((.inl (some (xm_i (0 : Int32))), (c, fi, (xm_up fl (30, 0, 0) 0 (if (fi (7, p, 0) 3) = 0 then (0 : Int64) else (1 : Int64))), r)) : xm_O) = R → xm_G E (d + 2) true 133 0 [some (xm_r (0, 0, 0)), some (xm_i (nI p)), some (xm_r (30, 0, 0)), none] [] (c, fi, fl, r) R from go_inr (by decide) (Nat.le_of_ble_eq_true rfl) (key _ rfl)
  intro R hR
  refine pg_133_0 rfl ?_
  refine pg_133_1 ?_
  refine pg_133_2 rfl ?_
  refine pg_133_3 rfl ?_
  refine pg_133_4 (sk0 hs) (Nat.le_of_ble_eq_true rfl) (ct_26v0 (p := p) hs (by omega) hl) ?_
  suffices KJ : xm_G E (d + 2) true 133 15 [some (xm_r (0, 0, 0)), some (xm_i (nI p)), some (xm_r (30, 0, 0)), none] [xm_l (if (fi (7, p, 0) 3) = 0 then (0 : Int64) else (1 : Int64)), xm_i (0 : Int32), xm_r (30, 0, 0)] (c, fi, fl, r) R by
    refine pg_133_7 (fun hc1 => ?_) (fun hc2 => ?_)
    · refine pg_133_14 ?_
      repeat rw [if_pos hc1] at KJ
      repeat rw [if_pos hc1]
      exact KJ
    · refine pg_133_10 ?_
      refine pg_133_11 ?_
      repeat rw [if_neg hc2] at KJ
      repeat rw [if_neg hc2]
      exact KJ
  refine pg_133_15 (sk30 hs) (i := 0) (rfl : (0 : Int32) = nI 0) (by omega) (by omega) ?_
  refine pg_133_16 ?_
  refine pg_133_22 ?_
  exact go_eq hR.symm (pg_133_23)
theorem ct_133i0 {n : Nat} {E : xm_E} {c : Nat × Nat} {fi : FI} {fl : FL} {r : xm_I → Nat → Option xm_I} {d : Nat} {x : Int32} (hs : sh n E c r) (hx : 200 ≤ (E.1 (E.2.2 c.1)).1) (v4_g0 : (bI (sp_8 n x)) = 0) : xm_C E (d + 6) true 133 [xm_r (0, 0, 0), xm_i x, xm_r (30, 0, 0)] (c, fi, fl, r) (.inl (some (xm_i (1 : Int32))), ((c.1 + 1, c.2 + 6), fi, fl, r)) := by
  have hn := sh_n hs
  suffices key : ∀ R : xm_O, ((.inl (some (xm_i (1 : Int32))), ((c.1 + 1, c.2 + 6), fi, fl, r)) : xm_O) = R → xm_G E (d + 5) true 133 0 [some (xm_r (0, 0, 0)), some (xm_i x), some (xm_r (30, 0, 0)), none] [] (c, fi, fl, r) R from go_inr (by decide) (Nat.le_of_ble_eq_true rfl) (key _ rfl)
  intro R hR
  refine pg_133_0 rfl ?_
  refine pg_133_1 ?_
  refine pg_133_2 rfl ?_
  refine pg_133_3 rfl ?_
  refine pt_133_4 (sk0 hs) (Nat.le_of_ble_eq_true rfl) (ct_26i0 (x := x) hs hx v4_g0) (show xm_hd 133 4 0 = some 19 by decide +kernel) ?_
  show xm_G E _ true 133 19 _ _ ((c.1 + 1, c.2 + 6), fi, fl, r) R
  refine pg_133_19 (lv' := [some (xm_r (0, 0, 0)), some (xm_i x), some (xm_r (30, 0, 0)), some (xm_r (E.2.2 c.1))]) rfl ?_
  refine pg_133_20 ?_
  exact go_eq hR.symm (pg_133_21)
theorem ct_134v0 {n : Nat} {E : xm_E} {c : Nat × Nat} {fi : FI} {fl : FL} {r : xm_I → Nat → Option xm_I} {d : Nat} {p : Nat} {o : Nat} (hs : sh n E c r) (hp : p < n) (ho : o < n) (v5_g0 : (fi (7, p, 0) 3) = 0) : xm_C E (d + 3) true 134 [xm_r (0, 0, 0), xm_i (nI p), xm_i (nI o), xm_r (30, 0, 0)] (c, fi, fl, r) (.inl (some (xm_i (0 : Int32))), (c, fi, (xm_up fl (30, 0, 0) 0 (if (bI (sp_50 fi p o)) = 0 then (0 : Int64) else (1 : Int64))), r)) := by
  have hn := sh_n hs
  suffices key : ∀ R : xm_O, ((.inl (some (xm_i (0 : Int32))), (c, fi, (xm_up fl (30, 0, 0) 0 (if (bI (sp_50 fi p o)) = 0 then (0 : Int64) else (1 : Int64))), r)) : xm_O) = R → xm_G E (d + 2) true 134 0 [some (xm_r (0, 0, 0)), some (xm_i (nI p)), some (xm_i (nI o)), some (xm_r (30, 0, 0)), none] [] (c, fi, fl, r) R from go_inr (by decide) (Nat.le_of_ble_eq_true rfl) (key _ rfl)
  intro R hR
  refine pg_134_0 rfl ?_
  refine pg_134_1 ?_
  refine pg_134_2 rfl ?_
  refine pg_134_3 rfl ?_
  refine pg_134_4 rfl ?_
  refine pg_134_5 (sk0 hs) (Nat.le_of_ble_eq_true rfl) (ct_27v0 (p := p) (o := o) hs (by omega) (by omega) v5_g0) ?_
  suffices KJ : xm_G E (d + 2) true 134 16 [some (xm_r (0, 0, 0)), some (xm_i (nI p)), some (xm_i (nI o)), some (xm_r (30, 0, 0)), none] [xm_l (if (bI (sp_50 fi p o)) = 0 then (0 : Int64) else (1 : Int64)), xm_i (0 : Int32), xm_r (30, 0, 0)] (c, fi, fl, r) R by
    refine pg_134_8 (fun hc1 => ?_) (fun hc2 => ?_)
    · refine pg_134_15 ?_
      repeat rw [if_pos hc1] at KJ
      repeat rw [if_pos hc1]
      exact KJ
    · refine pg_134_11 ?_
      refine pg_134_12 ?_
      repeat rw [if_neg hc2] at KJ
      repeat rw [if_neg hc2]
      exact KJ
  refine pg_134_16 (sk30 hs) (i := 0) (rfl : (0 : Int32) = nI 0) (by omega) (by omega) ?_
  refine pg_134_17 ?_
  refine pg_134_28 ?_
  exact go_eq hR.symm (pg_134_29)
theorem ct_134v1 {n : Nat} {E : xm_E} {c : Nat × Nat} {fi : FI} {fl : FL} {r : xm_I → Nat → Option xm_I} {d : Nat} {p : Nat} {o : Nat} (hs : sh n E c r) (hp : p < n) (ho : o < n) (hx : 200 ≤ (E.1 (E.2.2 c.1)).1) (v5_g0 : ¬ (fi (7, p, 0) 3) = 0) : xm_C E (d + 6) true 134 [xm_r (0, 0, 0), xm_i (nI p), xm_i (nI o), xm_r (30, 0, 0)] (c, fi, fl, r) (.inl (some (xm_i (2 : Int32))), ((c.1 + 1, c.2 + 6), fi, fl, r)) := by
  have hn := sh_n hs
  suffices key : ∀ R : xm_O, ((.inl (some (xm_i (2 : Int32))), ((c.1 + 1, c.2 + 6), fi, fl, r)) : xm_O) = R → xm_G E (d + 5) true 134 0 [some (xm_r (0, 0, 0)), some (xm_i (nI p)), some (xm_i (nI o)), some (xm_r (30, 0, 0)), none] [] (c, fi, fl, r) R from go_inr (by decide) (Nat.le_of_ble_eq_true rfl) (key _ rfl)
  intro R hR
  refine pg_134_0 rfl ?_
  refine pg_134_1 ?_
  refine pg_134_2 rfl ?_
  refine pg_134_3 rfl ?_
  refine pg_134_4 rfl ?_
  refine pt_134_5 (sk0 hs) (Nat.le_of_ble_eq_true rfl) (ct_27v1 (p := p) (o := o) hs (by omega) (by omega) hx v5_g0) (show xm_hd 134 5 1 = some 24 by decide +kernel) ?_
  show xm_G E _ true 134 24 _ _ ((c.1 + 1, c.2 + 6), fi, fl, r) R
  refine pg_134_24 (lv' := [some (xm_r (0, 0, 0)), some (xm_i (nI p)), some (xm_i (nI o)), some (xm_r (30, 0, 0)), some (xm_r (E.2.2 c.1))]) rfl ?_
  refine pg_134_26 ?_
  exact go_eq hR.symm (pg_134_27)
theorem ct_134j0 {n : Nat} {E : xm_E} {c : Nat × Nat} {fi : FI} {fl : FL} {r : xm_I → Nat → Option xm_I} {d : Nat} {p : Nat} {y : Int32} (hs : sh n E c r) (hp : p < n) (hx : 200 ≤ (E.1 (E.2.2 c.1)).1) (v5_g0 : (bI (sp_8 n y)) = 0) : xm_C E (d + 6) true 134 [xm_r (0, 0, 0), xm_i (nI p), xm_i y, xm_r (30, 0, 0)] (c, fi, fl, r) (.inl (some (xm_i (1 : Int32))), ((c.1 + 1, c.2 + 6), fi, fl, r)) := by
  have hn := sh_n hs
  suffices key : ∀ R : xm_O, ((.inl (some (xm_i (1 : Int32))), ((c.1 + 1, c.2 + 6), fi, fl, r)) : xm_O) = R → xm_G E (d + 5) true 134 0 [some (xm_r (0, 0, 0)), some (xm_i (nI p)), some (xm_i y), some (xm_r (30, 0, 0)), none] [] (c, fi, fl, r) R from go_inr (by decide) (Nat.le_of_ble_eq_true rfl) (key _ rfl)
  intro R hR
  refine pg_134_0 rfl ?_
  refine pg_134_1 ?_
  refine pg_134_2 rfl ?_
  refine pg_134_3 rfl ?_
  refine pg_134_4 rfl ?_
  refine pt_134_5 (sk0 hs) (Nat.le_of_ble_eq_true rfl) (ct_27j0 (p := p) (y := y) hs (by omega) hx v5_g0) (show xm_hd 134 5 0 = some 20 by decide +kernel) ?_
  show xm_G E _ true 134 20 _ _ ((c.1 + 1, c.2 + 6), fi, fl, r) R
  refine pg_134_20 (lv' := [some (xm_r (0, 0, 0)), some (xm_i (nI p)), some (xm_i y), some (xm_r (30, 0, 0)), some (xm_r (E.2.2 c.1))]) rfl ?_
  refine pg_134_22 ?_
  exact go_eq hR.symm (pg_134_23)
theorem ct_134j1 {n : Nat} {E : xm_E} {c : Nat × Nat} {fi : FI} {fl : FL} {r : xm_I → Nat → Option xm_I} {d : Nat} {p : Nat} {y : Int32} (hs : sh n E c r) (hp : p < n) (hx : 200 ≤ (E.1 (E.2.2 c.1)).1) (v5_g0 : ¬ (bI (sp_8 n y)) = 0) (v5_g1 : ¬ (fi (7, p, 0) 3) = 0) : xm_C E (d + 6) true 134 [xm_r (0, 0, 0), xm_i (nI p), xm_i y, xm_r (30, 0, 0)] (c, fi, fl, r) (.inl (some (xm_i (2 : Int32))), ((c.1 + 1, c.2 + 6), fi, fl, r)) := by
  have hn := sh_n hs
  suffices key : ∀ R : xm_O, ((.inl (some (xm_i (2 : Int32))), ((c.1 + 1, c.2 + 6), fi, fl, r)) : xm_O) = R → xm_G E (d + 5) true 134 0 [some (xm_r (0, 0, 0)), some (xm_i (nI p)), some (xm_i y), some (xm_r (30, 0, 0)), none] [] (c, fi, fl, r) R from go_inr (by decide) (Nat.le_of_ble_eq_true rfl) (key _ rfl)
  intro R hR
  refine pg_134_0 rfl ?_
  refine pg_134_1 ?_
  refine pg_134_2 rfl ?_
  refine pg_134_3 rfl ?_
  refine pg_134_4 rfl ?_
  refine pt_134_5 (sk0 hs) (Nat.le_of_ble_eq_true rfl) (ct_27j1 (p := p) (y := y) hs (by omega) hx v5_g0 v5_g1) (show xm_hd 134 5 1 = some 24 by decide +kernel) ?_
  show xm_G E _ true 134 24 _ _ ((c.1 + 1, c.2 + 6), fi, fl, r) R
  refine pg_134_24 (lv' := [some (xm_r (0, 0, 0)), some (xm_i (nI p)), some (xm_i y), some (xm_r (30, 0, 0)), some (xm_r (E.2.2 c.1))]) rfl ?_
  refine pg_134_26 ?_
  exact go_eq hR.symm (pg_134_27)
theorem ct_134i0 {n : Nat} {E : xm_E} {c : Nat × Nat} {fi : FI} {fl : FL} {r : xm_I → Nat → Option xm_I} {d : Nat} {x : Int32} {y : Int32} (hs : sh n E c r) (hx : 200 ≤ (E.1 (E.2.2 c.1)).1) (v5_g0 : (bI (sp_8 n x)) = 0) : xm_C E (d + 6) true 134 [xm_r (0, 0, 0), xm_i x, xm_i y, xm_r (30, 0, 0)] (c, fi, fl, r) (.inl (some (xm_i (1 : Int32))), ((c.1 + 1, c.2 + 6), fi, fl, r)) := by
  have hn := sh_n hs
  suffices key : ∀ R : xm_O, ((.inl (some (xm_i (1 : Int32))), ((c.1 + 1, c.2 + 6), fi, fl, r)) : xm_O) = R → xm_G E (d + 5) true 134 0 [some (xm_r (0, 0, 0)), some (xm_i x), some (xm_i y), some (xm_r (30, 0, 0)), none] [] (c, fi, fl, r) R from go_inr (by decide) (Nat.le_of_ble_eq_true rfl) (key _ rfl)
  intro R hR
  refine pg_134_0 rfl ?_
  refine pg_134_1 ?_
  refine pg_134_2 rfl ?_
  refine pg_134_3 rfl ?_
  refine pg_134_4 rfl ?_
  refine pt_134_5 (sk0 hs) (Nat.le_of_ble_eq_true rfl) (ct_27i0 (x := x) (y := y) hs hx v5_g0) (show xm_hd 134 5 0 = some 20 by decide +kernel) ?_
  show xm_G E _ true 134 20 _ _ ((c.1 + 1, c.2 + 6), fi, fl, r) R
  refine pg_134_20 (lv' := [some (xm_r (0, 0, 0)), some (xm_i x), some (xm_i y), some (xm_r (30, 0, 0)), some (xm_r (E.2.2 c.1))]) rfl ?_
  refine pg_134_22 ?_
  exact go_eq hR.symm (pg_134_23)
theorem ct_134i1 {n : Nat} {E : xm_E} {c : Nat × Nat} {fi : FI} {fl : FL} {r : xm_I → Nat → Option xm_I} {d : Nat} {x : Int32} {y : Int32} (hs : sh n E c r) (hx : 200 ≤ (E.1 (E.2.2 c.1)).1) (v5_g0 : ¬ (bI (sp_8 n x)) = 0) (v5_g1 : (bI (sp_8 n y)) = 0) : xm_C E (d + 6) true 134 [xm_r (0, 0, 0), xm_i x, xm_i y, xm_r (30, 0, 0)] (c, fi, fl, r) (.inl (some (xm_i (1 : Int32))), ((c.1 + 1, c.2 + 6), fi, fl, r)) := by
  have hn := sh_n hs
  suffices key : ∀ R : xm_O, ((.inl (some (xm_i (1 : Int32))), ((c.1 + 1, c.2 + 6), fi, fl, r)) : xm_O) = R → xm_G E (d + 5) true 134 0 [some (xm_r (0, 0, 0)), some (xm_i x), some (xm_i y), some (xm_r (30, 0, 0)), none] [] (c, fi, fl, r) R from go_inr (by decide) (Nat.le_of_ble_eq_true rfl) (key _ rfl)
  intro R hR
  refine pg_134_0 rfl ?_
  refine pg_134_1 ?_
  refine pg_134_2 rfl ?_
  refine pg_134_3 rfl ?_
  refine pg_134_4 rfl ?_
  refine pt_134_5 (sk0 hs) (Nat.le_of_ble_eq_true rfl) (ct_27i1 (x := x) (y := y) hs hx v5_g0 v5_g1) (show xm_hd 134 5 0 = some 20 by decide +kernel) ?_
  show xm_G E _ true 134 20 _ _ ((c.1 + 1, c.2 + 6), fi, fl, r) R
  refine pg_134_20 (lv' := [some (xm_r (0, 0, 0)), some (xm_i x), some (xm_i y), some (xm_r (30, 0, 0)), some (xm_r (E.2.2 c.1))]) rfl ?_
  refine pg_134_22 ?_
  exact go_eq hR.symm (pg_134_23)
theorem ct_135v0 {n : Nat} {E : xm_E} {c : Nat × Nat} {fi : FI} {fl : FL} {r : xm_I → Nat → Option xm_I} {d : Nat} {p : Nat} {o : Nat} (hs : sh n E c r) (hp : p < n) (ho : o < n) (v5_g0 : (fi (7, p, 0) 3) = 0) : xm_C E (d + 3) true 135 [xm_r (0, 0, 0), xm_i (nI p), xm_i (nI o), xm_r (30, 0, 0)] (c, fi, fl, r) (.inl (some (xm_i (0 : Int32))), (c, fi, (xm_up fl (30, 0, 0) 0 ((sp_54 fi p o).toInt64)), r)) := by
  have hn := sh_n hs
  suffices key : ∀ R : xm_O, ((.inl (some (xm_i (0 : Int32))), (c, fi, (xm_up fl (30, 0, 0) 0 ((sp_54 fi p o).toInt64)), r)) : xm_O) = R → xm_G E (d + 2) true 135 0 [some (xm_r (0, 0, 0)), some (xm_i (nI p)), some (xm_i (nI o)), some (xm_r (30, 0, 0)), none] [] (c, fi, fl, r) R from go_inr (by decide) (Nat.le_of_ble_eq_true rfl) (key _ rfl)
  intro R hR
  refine pg_135_0 rfl ?_
  refine pg_135_1 ?_
  refine pg_135_2 rfl ?_
  refine pg_135_3 rfl ?_
  refine pg_135_4 rfl ?_
  refine pg_135_5 (sk0 hs) (Nat.le_of_ble_eq_true rfl) (ct_28v0 (p := p) (o := o) hs (by omega) (by omega) v5_g0) ?_
  refine pg_135_8 ?_
  refine pg_135_9 (sk30 hs) (i := 0) (rfl : (0 : Int32) = nI 0) (by omega) (by omega) ?_
  refine pg_135_10 ?_
  refine pg_135_21 ?_
  exact go_eq hR.symm (pg_135_22)
theorem ct_135v1 {n : Nat} {E : xm_E} {c : Nat × Nat} {fi : FI} {fl : FL} {r : xm_I → Nat → Option xm_I} {d : Nat} {p : Nat} {o : Nat} (hs : sh n E c r) (hp : p < n) (ho : o < n) (hx : 200 ≤ (E.1 (E.2.2 c.1)).1) (v5_g0 : ¬ (fi (7, p, 0) 3) = 0) : xm_C E (d + 6) true 135 [xm_r (0, 0, 0), xm_i (nI p), xm_i (nI o), xm_r (30, 0, 0)] (c, fi, fl, r) (.inl (some (xm_i (2 : Int32))), ((c.1 + 1, c.2 + 6), fi, fl, r)) := by
  have hn := sh_n hs
  suffices key : ∀ R : xm_O, ((.inl (some (xm_i (2 : Int32))), ((c.1 + 1, c.2 + 6), fi, fl, r)) : xm_O) = R → xm_G E (d + 5) true 135 0 [some (xm_r (0, 0, 0)), some (xm_i (nI p)), some (xm_i (nI o)), some (xm_r (30, 0, 0)), none] [] (c, fi, fl, r) R from go_inr (by decide) (Nat.le_of_ble_eq_true rfl) (key _ rfl)
  intro R hR
  refine pg_135_0 rfl ?_
  refine pg_135_1 ?_
  refine pg_135_2 rfl ?_
  refine pg_135_3 rfl ?_
  refine pg_135_4 rfl ?_
  refine pt_135_5 (sk0 hs) (Nat.le_of_ble_eq_true rfl) (ct_28v1 (p := p) (o := o) hs (by omega) (by omega) hx v5_g0) (show xm_hd 135 5 1 = some 17 by decide +kernel) ?_
  show xm_G E _ true 135 17 _ _ ((c.1 + 1, c.2 + 6), fi, fl, r) R
  refine pg_135_17 (lv' := [some (xm_r (0, 0, 0)), some (xm_i (nI p)), some (xm_i (nI o)), some (xm_r (30, 0, 0)), some (xm_r (E.2.2 c.1))]) rfl ?_
  refine pg_135_19 ?_
  exact go_eq hR.symm (pg_135_20)
theorem ct_135j0 {n : Nat} {E : xm_E} {c : Nat × Nat} {fi : FI} {fl : FL} {r : xm_I → Nat → Option xm_I} {d : Nat} {p : Nat} {y : Int32} (hs : sh n E c r) (hp : p < n) (hx : 200 ≤ (E.1 (E.2.2 c.1)).1) (v5_g0 : (bI (sp_8 n y)) = 0) : xm_C E (d + 6) true 135 [xm_r (0, 0, 0), xm_i (nI p), xm_i y, xm_r (30, 0, 0)] (c, fi, fl, r) (.inl (some (xm_i (1 : Int32))), ((c.1 + 1, c.2 + 6), fi, fl, r)) := by
  have hn := sh_n hs
  suffices key : ∀ R : xm_O, ((.inl (some (xm_i (1 : Int32))), ((c.1 + 1, c.2 + 6), fi, fl, r)) : xm_O) = R → xm_G E (d + 5) true 135 0 [some (xm_r (0, 0, 0)), some (xm_i (nI p)), some (xm_i y), some (xm_r (30, 0, 0)), none] [] (c, fi, fl, r) R from go_inr (by decide) (Nat.le_of_ble_eq_true rfl) (key _ rfl)
  intro R hR
  refine pg_135_0 rfl ?_
  refine pg_135_1 ?_
  refine pg_135_2 rfl ?_
  refine pg_135_3 rfl ?_
  refine pg_135_4 rfl ?_
  refine pt_135_5 (sk0 hs) (Nat.le_of_ble_eq_true rfl) (ct_28j0 (p := p) (y := y) hs (by omega) hx v5_g0) (show xm_hd 135 5 0 = some 13 by decide +kernel) ?_
  show xm_G E _ true 135 13 _ _ ((c.1 + 1, c.2 + 6), fi, fl, r) R
  refine pg_135_13 (lv' := [some (xm_r (0, 0, 0)), some (xm_i (nI p)), some (xm_i y), some (xm_r (30, 0, 0)), some (xm_r (E.2.2 c.1))]) rfl ?_
  refine pg_135_15 ?_
  exact go_eq hR.symm (pg_135_16)
theorem ct_135j1 {n : Nat} {E : xm_E} {c : Nat × Nat} {fi : FI} {fl : FL} {r : xm_I → Nat → Option xm_I} {d : Nat} {p : Nat} {y : Int32} (hs : sh n E c r) (hp : p < n) (hx : 200 ≤ (E.1 (E.2.2 c.1)).1) (v5_g0 : ¬ (bI (sp_8 n y)) = 0) (v5_g1 : ¬ (fi (7, p, 0) 3) = 0) : xm_C E (d + 6) true 135 [xm_r (0, 0, 0), xm_i (nI p), xm_i y, xm_r (30, 0, 0)] (c, fi, fl, r) (.inl (some (xm_i (2 : Int32))), ((c.1 + 1, c.2 + 6), fi, fl, r)) := by
  have hn := sh_n hs
  suffices key : ∀ R : xm_O, ((.inl (some (xm_i (2 : Int32))), ((c.1 + 1, c.2 + 6), fi, fl, r)) : xm_O) = R → xm_G E (d + 5) true 135 0 [some (xm_r (0, 0, 0)), some (xm_i (nI p)), some (xm_i y), some (xm_r (30, 0, 0)), none] [] (c, fi, fl, r) R from go_inr (by decide) (Nat.le_of_ble_eq_true rfl) (key _ rfl)
  intro R hR
  refine pg_135_0 rfl ?_
  refine pg_135_1 ?_
  refine pg_135_2 rfl ?_
  refine pg_135_3 rfl ?_
  refine pg_135_4 rfl ?_
  refine pt_135_5 (sk0 hs) (Nat.le_of_ble_eq_true rfl) (ct_28j1 (p := p) (y := y) hs (by omega) hx v5_g0 v5_g1) (show xm_hd 135 5 1 = some 17 by decide +kernel) ?_
  show xm_G E _ true 135 17 _ _ ((c.1 + 1, c.2 + 6), fi, fl, r) R
  refine pg_135_17 (lv' := [some (xm_r (0, 0, 0)), some (xm_i (nI p)), some (xm_i y), some (xm_r (30, 0, 0)), some (xm_r (E.2.2 c.1))]) rfl ?_
  refine pg_135_19 ?_
  exact go_eq hR.symm (pg_135_20)
theorem ct_135i0 {n : Nat} {E : xm_E} {c : Nat × Nat} {fi : FI} {fl : FL} {r : xm_I → Nat → Option xm_I} {d : Nat} {x : Int32} {y : Int32} (hs : sh n E c r) (hx : 200 ≤ (E.1 (E.2.2 c.1)).1) (v5_g0 : (bI (sp_8 n x)) = 0) : xm_C E (d + 6) true 135 [xm_r (0, 0, 0), xm_i x, xm_i y, xm_r (30, 0, 0)] (c, fi, fl, r) (.inl (some (xm_i (1 : Int32))), ((c.1 + 1, c.2 + 6), fi, fl, r)) := by
  have hn := sh_n hs
  suffices key : ∀ R : xm_O, ((.inl (some (xm_i (1 : Int32))), ((c.1 + 1, c.2 + 6), fi, fl, r)) : xm_O) = R → xm_G E (d + 5) true 135 0 [some (xm_r (0, 0, 0)), some (xm_i x), some (xm_i y), some (xm_r (30, 0, 0)), none] [] (c, fi, fl, r) R from go_inr (by decide) (Nat.le_of_ble_eq_true rfl) (key _ rfl)
  intro R hR
  refine pg_135_0 rfl ?_
  refine pg_135_1 ?_
  refine pg_135_2 rfl ?_
  refine pg_135_3 rfl ?_
  refine pg_135_4 rfl ?_
  refine pt_135_5 (sk0 hs) (Nat.le_of_ble_eq_true rfl) (ct_28i0 (x := x) (y := y) hs hx v5_g0) (show xm_hd 135 5 0 = some 13 by decide +kernel) ?_
  show xm_G E _ true 135 13 _ _ ((c.1 + 1, c.2 + 6), fi, fl, r) R
  refine pg_135_13 (lv' := [some (xm_r (0, 0, 0)), some (xm_i x), some (xm_i y), some (xm_r (30, 0, 0)), some (xm_r (E.2.2 c.1))]) rfl ?_
  refine pg_135_15 ?_
  exact go_eq hR.symm (pg_135_16)
theorem ct_135i1 {n : Nat} {E : xm_E} {c : Nat × Nat} {fi : FI} {fl : FL} {r : xm_I → Nat → Option xm_I} {d : Nat} {x : Int32} {y : Int32} (hs : sh n E c r) (hx : 200 ≤ (E.1 (E.2.2 c.1)).1) (v5_g0 : ¬ (bI (sp_8 n x)) = 0) (v5_g1 : (bI (sp_8 n y)) = 0) : xm_C E (d + 6) true 135 [xm_r (0, 0, 0), xm_i x, xm_i y, xm_r (30, 0, 0)] (c, fi, fl, r) (.inl (some (xm_i (1 : Int32))), ((c.1 + 1, c.2 + 6), fi, fl, r)) := by
  have hn := sh_n hs
  suffices key : ∀ R : xm_O, ((.inl (some (xm_i (1 : Int32))), ((c.1 + 1, c.2 + 6), fi, fl, r)) : xm_O) = R → xm_G E (d + 5) true 135 0 [some (xm_r (0, 0, 0)), some (xm_i x), some (xm_i y), some (xm_r (30, 0, 0)), none] [] (c, fi, fl, r) R from go_inr (by decide) (Nat.le_of_ble_eq_true rfl) (key _ rfl)
  intro R hR
  refine pg_135_0 rfl ?_
  refine pg_135_1 ?_
  refine pg_135_2 rfl ?_
  refine pg_135_3 rfl ?_
  refine pg_135_4 rfl ?_
  refine pt_135_5 (sk0 hs) (Nat.le_of_ble_eq_true rfl) (ct_28i1 (x := x) (y := y) hs hx v5_g0 v5_g1) (show xm_hd 135 5 0 = some 13 by decide +kernel) ?_
  show xm_G E _ true 135 13 _ _ ((c.1 + 1, c.2 + 6), fi, fl, r) R
  refine pg_135_13 (lv' := [some (xm_r (0, 0, 0)), some (xm_i x), some (xm_i y), some (xm_r (30, 0, 0)), some (xm_r (E.2.2 c.1))]) rfl ?_
  refine pg_135_15 ?_
  exact go_eq hR.symm (pg_135_16)
theorem ct_136v0 {n : Nat} {E : xm_E} {c : Nat × Nat} {fi : FI} {fl : FL} {r : xm_I → Nat → Option xm_I} {d : Nat} {p : Nat} (hs : sh n E c r) (hp : p < n) (v4_g0 : (fi (7, p, 0) 3) = 0) : xm_C E (d + 3) true 136 [xm_r (0, 0, 0), xm_i (nI p), xm_r (30, 0, 0)] (c, fi, fl, r) (.inl (some (xm_i (0 : Int32))), (c, fi, (xm_up fl (30, 0, 0) 0 ((fi (8, p, 0) 0).toInt64)), r)) := by
  have hn := sh_n hs
  suffices key : ∀ R : xm_O, ((.inl (some (xm_i (0 : Int32))), (c, fi, (xm_up fl (30, 0, 0) 0 ((fi (8, p, 0) 0).toInt64)), r)) : xm_O) = R → xm_G E (d + 2) true 136 0 [some (xm_r (0, 0, 0)), some (xm_i (nI p)), some (xm_r (30, 0, 0)), none] [] (c, fi, fl, r) R from go_inr (by decide) (Nat.le_of_ble_eq_true rfl) (key _ rfl)
  intro R hR
  refine pg_136_0 rfl ?_
  refine pg_136_1 ?_
  refine pg_136_2 rfl ?_
  refine pg_136_3 rfl ?_
  refine pg_136_4 (sk0 hs) (Nat.le_of_ble_eq_true rfl) (ct_29v0 (p := p) hs (by omega) v4_g0) ?_
  refine pg_136_7 ?_
  refine pg_136_8 (sk30 hs) (i := 0) (rfl : (0 : Int32) = nI 0) (by omega) (by omega) ?_
  refine pg_136_9 ?_
  refine pg_136_18 ?_
  exact go_eq hR.symm (pg_136_19)
theorem ct_136v1 {n : Nat} {E : xm_E} {c : Nat × Nat} {fi : FI} {fl : FL} {r : xm_I → Nat → Option xm_I} {d : Nat} {p : Nat} (hs : sh n E c r) (hp : p < n) (hx : 200 ≤ (E.1 (E.2.2 c.1)).1) (v4_g0 : ¬ (fi (7, p, 0) 3) = 0) : xm_C E (d + 6) true 136 [xm_r (0, 0, 0), xm_i (nI p), xm_r (30, 0, 0)] (c, fi, fl, r) (.inl (some (xm_i (2 : Int32))), ((c.1 + 1, c.2 + 6), fi, fl, r)) := by
  have hn := sh_n hs
  suffices key : ∀ R : xm_O, ((.inl (some (xm_i (2 : Int32))), ((c.1 + 1, c.2 + 6), fi, fl, r)) : xm_O) = R → xm_G E (d + 5) true 136 0 [some (xm_r (0, 0, 0)), some (xm_i (nI p)), some (xm_r (30, 0, 0)), none] [] (c, fi, fl, r) R from go_inr (by decide) (Nat.le_of_ble_eq_true rfl) (key _ rfl)
  intro R hR
  refine pg_136_0 rfl ?_
  refine pg_136_1 ?_
  refine pg_136_2 rfl ?_
  refine pg_136_3 rfl ?_
  refine pt_136_4 (sk0 hs) (Nat.le_of_ble_eq_true rfl) (ct_29v1 (p := p) hs (by omega) hx v4_g0) (show xm_hd 136 4 1 = some 15 by decide +kernel) ?_
  show xm_G E _ true 136 15 _ _ ((c.1 + 1, c.2 + 6), fi, fl, r) R
  refine pg_136_15 (lv' := [some (xm_r (0, 0, 0)), some (xm_i (nI p)), some (xm_r (30, 0, 0)), some (xm_r (E.2.2 c.1))]) rfl ?_
  refine pg_136_16 ?_
  exact go_eq hR.symm (pg_136_17)
theorem ct_136i0 {n : Nat} {E : xm_E} {c : Nat × Nat} {fi : FI} {fl : FL} {r : xm_I → Nat → Option xm_I} {d : Nat} {x : Int32} (hs : sh n E c r) (hx : 200 ≤ (E.1 (E.2.2 c.1)).1) (v4_g0 : (bI (sp_8 n x)) = 0) : xm_C E (d + 6) true 136 [xm_r (0, 0, 0), xm_i x, xm_r (30, 0, 0)] (c, fi, fl, r) (.inl (some (xm_i (1 : Int32))), ((c.1 + 1, c.2 + 6), fi, fl, r)) := by
  have hn := sh_n hs
  suffices key : ∀ R : xm_O, ((.inl (some (xm_i (1 : Int32))), ((c.1 + 1, c.2 + 6), fi, fl, r)) : xm_O) = R → xm_G E (d + 5) true 136 0 [some (xm_r (0, 0, 0)), some (xm_i x), some (xm_r (30, 0, 0)), none] [] (c, fi, fl, r) R from go_inr (by decide) (Nat.le_of_ble_eq_true rfl) (key _ rfl)
  intro R hR
  refine pg_136_0 rfl ?_
  refine pg_136_1 ?_
  refine pg_136_2 rfl ?_
  refine pg_136_3 rfl ?_
  refine pt_136_4 (sk0 hs) (Nat.le_of_ble_eq_true rfl) (ct_29i0 (x := x) hs hx v4_g0) (show xm_hd 136 4 0 = some 12 by decide +kernel) ?_
  show xm_G E _ true 136 12 _ _ ((c.1 + 1, c.2 + 6), fi, fl, r) R
  refine pg_136_12 (lv' := [some (xm_r (0, 0, 0)), some (xm_i x), some (xm_r (30, 0, 0)), some (xm_r (E.2.2 c.1))]) rfl ?_
  refine pg_136_13 ?_
  exact go_eq hR.symm (pg_136_14)
theorem ct_137v0 {n : Nat} {E : xm_E} {c : Nat × Nat} {fi : FI} {fl : FL} {r : xm_I → Nat → Option xm_I} {d : Nat} {p : Nat} (hs : sh n E c r) (hp : p < n) (v4_g0 : (fi (7, p, 0) 3) = 0) : xm_C E (d + 3) true 137 [xm_r (0, 0, 0), xm_i (nI p), xm_r (30, 0, 0)] (c, fi, fl, r) (.inl (some (xm_i (0 : Int32))), (c, fi, (xm_up fl (30, 0, 0) 0 ((fi (8, p, 0) 1).toInt64)), r)) := by
  have hn := sh_n hs
  suffices key : ∀ R : xm_O, ((.inl (some (xm_i (0 : Int32))), (c, fi, (xm_up fl (30, 0, 0) 0 ((fi (8, p, 0) 1).toInt64)), r)) : xm_O) = R → xm_G E (d + 2) true 137 0 [some (xm_r (0, 0, 0)), some (xm_i (nI p)), some (xm_r (30, 0, 0)), none] [] (c, fi, fl, r) R from go_inr (by decide) (Nat.le_of_ble_eq_true rfl) (key _ rfl)
  intro R hR
  refine pg_137_0 rfl ?_
  refine pg_137_1 ?_
  refine pg_137_2 rfl ?_
  refine pg_137_3 rfl ?_
  refine pg_137_4 (sk0 hs) (Nat.le_of_ble_eq_true rfl) (ct_30v0 (p := p) hs (by omega) v4_g0) ?_
  refine pg_137_7 ?_
  refine pg_137_8 (sk30 hs) (i := 0) (rfl : (0 : Int32) = nI 0) (by omega) (by omega) ?_
  refine pg_137_9 ?_
  refine pg_137_18 ?_
  exact go_eq hR.symm (pg_137_19)
theorem ct_137v1 {n : Nat} {E : xm_E} {c : Nat × Nat} {fi : FI} {fl : FL} {r : xm_I → Nat → Option xm_I} {d : Nat} {p : Nat} (hs : sh n E c r) (hp : p < n) (hx : 200 ≤ (E.1 (E.2.2 c.1)).1) (v4_g0 : ¬ (fi (7, p, 0) 3) = 0) : xm_C E (d + 6) true 137 [xm_r (0, 0, 0), xm_i (nI p), xm_r (30, 0, 0)] (c, fi, fl, r) (.inl (some (xm_i (2 : Int32))), ((c.1 + 1, c.2 + 6), fi, fl, r)) := by
  have hn := sh_n hs
  suffices key : ∀ R : xm_O, ((.inl (some (xm_i (2 : Int32))), ((c.1 + 1, c.2 + 6), fi, fl, r)) : xm_O) = R → xm_G E (d + 5) true 137 0 [some (xm_r (0, 0, 0)), some (xm_i (nI p)), some (xm_r (30, 0, 0)), none] [] (c, fi, fl, r) R from go_inr (by decide) (Nat.le_of_ble_eq_true rfl) (key _ rfl)
  intro R hR
  refine pg_137_0 rfl ?_
  refine pg_137_1 ?_
  refine pg_137_2 rfl ?_
  refine pg_137_3 rfl ?_
  refine pt_137_4 (sk0 hs) (Nat.le_of_ble_eq_true rfl) (ct_30v1 (p := p) hs (by omega) hx v4_g0) (show xm_hd 137 4 1 = some 15 by decide +kernel) ?_
  show xm_G E _ true 137 15 _ _ ((c.1 + 1, c.2 + 6), fi, fl, r) R
  refine pg_137_15 (lv' := [some (xm_r (0, 0, 0)), some (xm_i (nI p)), some (xm_r (30, 0, 0)), some (xm_r (E.2.2 c.1))]) rfl ?_
  refine pg_137_16 ?_
  exact go_eq hR.symm (pg_137_17)
theorem ct_137i0 {n : Nat} {E : xm_E} {c : Nat × Nat} {fi : FI} {fl : FL} {r : xm_I → Nat → Option xm_I} {d : Nat} {x : Int32} (hs : sh n E c r) (hx : 200 ≤ (E.1 (E.2.2 c.1)).1) (v4_g0 : (bI (sp_8 n x)) = 0) : xm_C E (d + 6) true 137 [xm_r (0, 0, 0), xm_i x, xm_r (30, 0, 0)] (c, fi, fl, r) (.inl (some (xm_i (1 : Int32))), ((c.1 + 1, c.2 + 6), fi, fl, r)) := by
  have hn := sh_n hs
  suffices key : ∀ R : xm_O, ((.inl (some (xm_i (1 : Int32))), ((c.1 + 1, c.2 + 6), fi, fl, r)) : xm_O) = R → xm_G E (d + 5) true 137 0 [some (xm_r (0, 0, 0)), some (xm_i x), some (xm_r (30, 0, 0)), none] [] (c, fi, fl, r) R from go_inr (by decide) (Nat.le_of_ble_eq_true rfl) (key _ rfl)
  intro R hR
  refine pg_137_0 rfl ?_
  refine pg_137_1 ?_
  refine pg_137_2 rfl ?_
  refine pg_137_3 rfl ?_
  refine pt_137_4 (sk0 hs) (Nat.le_of_ble_eq_true rfl) (ct_30i0 (x := x) hs hx v4_g0) (show xm_hd 137 4 0 = some 12 by decide +kernel) ?_
  show xm_G E _ true 137 12 _ _ ((c.1 + 1, c.2 + 6), fi, fl, r) R
  refine pg_137_12 (lv' := [some (xm_r (0, 0, 0)), some (xm_i x), some (xm_r (30, 0, 0)), some (xm_r (E.2.2 c.1))]) rfl ?_
  refine pg_137_13 ?_
  exact go_eq hR.symm (pg_137_14)
theorem ct_138v0 {n : Nat} {E : xm_E} {c : Nat × Nat} {fi : FI} {fl : FL} {r : xm_I → Nat → Option xm_I} {d : Nat} {p : Nat} (hs : sh n E c r) (hp : p < n) (hx : 200 ≤ (E.1 (E.2.2 c.1)).1) (v4_g0 : (fi (7, p, 0) 11) = 0) : xm_C E (d + 6) true 138 [xm_r (0, 0, 0), xm_i (nI p), xm_r (30, 0, 0)] (c, fi, fl, r) (.inl (some (xm_i (2 : Int32))), ((c.1 + 1, c.2 + 6), fi, fl, r)) := by
  have hn := sh_n hs
  suffices key : ∀ R : xm_O, ((.inl (some (xm_i (2 : Int32))), ((c.1 + 1, c.2 + 6), fi, fl, r)) : xm_O) = R → xm_G E (d + 5) true 138 0 [some (xm_r (0, 0, 0)), some (xm_i (nI p)), some (xm_r (30, 0, 0)), none] [] (c, fi, fl, r) R from go_inr (by decide) (Nat.le_of_ble_eq_true rfl) (key _ rfl)
  intro R hR
  refine pg_138_0 rfl ?_
  refine pg_138_1 ?_
  refine pg_138_2 rfl ?_
  refine pg_138_3 rfl ?_
  refine pt_138_4 (sk0 hs) (Nat.le_of_ble_eq_true rfl) (ct_31v0 (p := p) hs (by omega) hx v4_g0) (show xm_hd 138 4 2 = some 15 by decide +kernel) ?_
  show xm_G E _ true 138 15 _ _ ((c.1 + 1, c.2 + 6), fi, fl, r) R
  refine pg_138_15 (lv' := [some (xm_r (0, 0, 0)), some (xm_i (nI p)), some (xm_r (30, 0, 0)), some (xm_r (E.2.2 c.1))]) rfl ?_
  refine pg_138_16 ?_
  exact go_eq hR.symm (pg_138_17)
theorem ct_138v1 {n : Nat} {E : xm_E} {c : Nat × Nat} {fi : FI} {fl : FL} {r : xm_I → Nat → Option xm_I} {d : Nat} {p : Nat} (hs : sh n E c r) (hp : p < n) (v4_g0 : ¬ (fi (7, p, 0) 11) = 0) : xm_C E (d + 3) true 138 [xm_r (0, 0, 0), xm_i (nI p), xm_r (30, 0, 0)] (c, fi, fl, r) (.inl (some (xm_i (0 : Int32))), (c, fi, (xm_up fl (30, 0, 0) 0 ((fi (7, p, 0) 12).toInt64)), r)) := by
  have hn := sh_n hs
  suffices key : ∀ R : xm_O, ((.inl (some (xm_i (0 : Int32))), (c, fi, (xm_up fl (30, 0, 0) 0 ((fi (7, p, 0) 12).toInt64)), r)) : xm_O) = R → xm_G E (d + 2) true 138 0 [some (xm_r (0, 0, 0)), some (xm_i (nI p)), some (xm_r (30, 0, 0)), none] [] (c, fi, fl, r) R from go_inr (by decide) (Nat.le_of_ble_eq_true rfl) (key _ rfl)
  intro R hR
  refine pg_138_0 rfl ?_
  refine pg_138_1 ?_
  refine pg_138_2 rfl ?_
  refine pg_138_3 rfl ?_
  refine pg_138_4 (sk0 hs) (Nat.le_of_ble_eq_true rfl) (ct_31v1 (p := p) hs (by omega) v4_g0) ?_
  refine pg_138_7 ?_
  refine pg_138_8 (sk30 hs) (i := 0) (rfl : (0 : Int32) = nI 0) (by omega) (by omega) ?_
  refine pg_138_9 ?_
  refine pg_138_18 ?_
  exact go_eq hR.symm (pg_138_19)
theorem ct_138i0 {n : Nat} {E : xm_E} {c : Nat × Nat} {fi : FI} {fl : FL} {r : xm_I → Nat → Option xm_I} {d : Nat} {x : Int32} (hs : sh n E c r) (hx : 200 ≤ (E.1 (E.2.2 c.1)).1) (v4_g0 : (bI (sp_8 n x)) = 0) : xm_C E (d + 6) true 138 [xm_r (0, 0, 0), xm_i x, xm_r (30, 0, 0)] (c, fi, fl, r) (.inl (some (xm_i (1 : Int32))), ((c.1 + 1, c.2 + 6), fi, fl, r)) := by
  have hn := sh_n hs
  suffices key : ∀ R : xm_O, ((.inl (some (xm_i (1 : Int32))), ((c.1 + 1, c.2 + 6), fi, fl, r)) : xm_O) = R → xm_G E (d + 5) true 138 0 [some (xm_r (0, 0, 0)), some (xm_i x), some (xm_r (30, 0, 0)), none] [] (c, fi, fl, r) R from go_inr (by decide) (Nat.le_of_ble_eq_true rfl) (key _ rfl)
  intro R hR
  refine pg_138_0 rfl ?_
  refine pg_138_1 ?_
  refine pg_138_2 rfl ?_
  refine pg_138_3 rfl ?_
  refine pt_138_4 (sk0 hs) (Nat.le_of_ble_eq_true rfl) (ct_31i0 (x := x) hs hx v4_g0) (show xm_hd 138 4 0 = some 12 by decide +kernel) ?_
  show xm_G E _ true 138 12 _ _ ((c.1 + 1, c.2 + 6), fi, fl, r) R
  refine pg_138_12 (lv' := [some (xm_r (0, 0, 0)), some (xm_i x), some (xm_r (30, 0, 0)), some (xm_r (E.2.2 c.1))]) rfl ?_
  refine pg_138_13 ?_
  exact go_eq hR.symm (pg_138_14)
theorem ct_139v0 {n : Nat} {E : xm_E} {c : Nat × Nat} {fi : FI} {fl : FL} {r : xm_I → Nat → Option xm_I} {d : Nat} {p : Nat} {o : Nat} (hs : sh n E c r) (hp : p < n) (ho : o < n) : xm_C E (d + 3) true 139 [xm_r (0, 0, 0), xm_i (nI p), xm_i (nI o), xm_r (30, 0, 0)] (c, fi, fl, r) (.inl (some (xm_i (0 : Int32))), (c, fi, (xm_up fl (30, 0, 0) 0 (if (bI (sp_60 fi p o)) = 0 then (0 : Int64) else (1 : Int64))), r)) := by
  have hn := sh_n hs
  suffices key : ∀ R : xm_O, ((.inl (some (xm_i (0 : Int32))), (c, fi, (xm_up fl (30, 0, 0) 0 (if (bI (sp_60 fi p o)) = 0 then (0 : Int64) else (1 : Int64))), r)) : xm_O) = R → xm_G E (d + 2) true 139 0 [some (xm_r (0, 0, 0)), some (xm_i (nI p)), some (xm_i (nI o)), some (xm_r (30, 0, 0)), none] [] (c, fi, fl, r) R from go_inr (by decide) (Nat.le_of_ble_eq_true rfl) (key _ rfl)
  intro R hR
  refine pg_139_0 rfl ?_
  refine pg_139_1 ?_
  refine pg_139_2 rfl ?_
  refine pg_139_3 rfl ?_
  refine pg_139_4 rfl ?_
  refine pg_139_5 (sk0 hs) (Nat.le_of_ble_eq_true rfl) (ct_32v0 (p := p) (o := o) hs (by omega) (by omega)) ?_
  suffices KJ : xm_G E (d + 2) true 139 16 [some (xm_r (0, 0, 0)), some (xm_i (nI p)), some (xm_i (nI o)), some (xm_r (30, 0, 0)), none] [xm_l (if (bI (sp_60 fi p o)) = 0 then (0 : Int64) else (1 : Int64)), xm_i (0 : Int32), xm_r (30, 0, 0)] (c, fi, fl, r) R by
    refine pg_139_8 (fun hc1 => ?_) (fun hc2 => ?_)
    · refine pg_139_15 ?_
      repeat rw [if_pos hc1] at KJ
      repeat rw [if_pos hc1]
      exact KJ
    · refine pg_139_11 ?_
      refine pg_139_12 ?_
      repeat rw [if_neg hc2] at KJ
      repeat rw [if_neg hc2]
      exact KJ
  refine pg_139_16 (sk30 hs) (i := 0) (rfl : (0 : Int32) = nI 0) (by omega) (by omega) ?_
  refine pg_139_17 ?_
  refine pg_139_24 ?_
  exact go_eq hR.symm (pg_139_25)
theorem ct_139j0 {n : Nat} {E : xm_E} {c : Nat × Nat} {fi : FI} {fl : FL} {r : xm_I → Nat → Option xm_I} {d : Nat} {p : Nat} {y : Int32} (hs : sh n E c r) (hp : p < n) (hx : 200 ≤ (E.1 (E.2.2 c.1)).1) (v5_g0 : (bI (sp_8 n y)) = 0) : xm_C E (d + 6) true 139 [xm_r (0, 0, 0), xm_i (nI p), xm_i y, xm_r (30, 0, 0)] (c, fi, fl, r) (.inl (some (xm_i (1 : Int32))), ((c.1 + 1, c.2 + 6), fi, fl, r)) := by
  have hn := sh_n hs
  suffices key : ∀ R : xm_O, ((.inl (some (xm_i (1 : Int32))), ((c.1 + 1, c.2 + 6), fi, fl, r)) : xm_O) = R → xm_G E (d + 5) true 139 0 [some (xm_r (0, 0, 0)), some (xm_i (nI p)), some (xm_i y), some (xm_r (30, 0, 0)), none] [] (c, fi, fl, r) R from go_inr (by decide) (Nat.le_of_ble_eq_true rfl) (key _ rfl)
  intro R hR
  refine pg_139_0 rfl ?_
  refine pg_139_1 ?_
  refine pg_139_2 rfl ?_
  refine pg_139_3 rfl ?_
  refine pg_139_4 rfl ?_
  refine pt_139_5 (sk0 hs) (Nat.le_of_ble_eq_true rfl) (ct_32j0 (p := p) (y := y) hs (by omega) hx v5_g0) (show xm_hd 139 5 0 = some 20 by decide +kernel) ?_
  show xm_G E _ true 139 20 _ _ ((c.1 + 1, c.2 + 6), fi, fl, r) R
  refine pg_139_20 (lv' := [some (xm_r (0, 0, 0)), some (xm_i (nI p)), some (xm_i y), some (xm_r (30, 0, 0)), some (xm_r (E.2.2 c.1))]) rfl ?_
  refine pg_139_22 ?_
  exact go_eq hR.symm (pg_139_23)
theorem ct_139i0 {n : Nat} {E : xm_E} {c : Nat × Nat} {fi : FI} {fl : FL} {r : xm_I → Nat → Option xm_I} {d : Nat} {x : Int32} {y : Int32} (hs : sh n E c r) (hx : 200 ≤ (E.1 (E.2.2 c.1)).1) (v5_g0 : (bI (sp_8 n x)) = 0) : xm_C E (d + 6) true 139 [xm_r (0, 0, 0), xm_i x, xm_i y, xm_r (30, 0, 0)] (c, fi, fl, r) (.inl (some (xm_i (1 : Int32))), ((c.1 + 1, c.2 + 6), fi, fl, r)) := by
  have hn := sh_n hs
  suffices key : ∀ R : xm_O, ((.inl (some (xm_i (1 : Int32))), ((c.1 + 1, c.2 + 6), fi, fl, r)) : xm_O) = R → xm_G E (d + 5) true 139 0 [some (xm_r (0, 0, 0)), some (xm_i x), some (xm_i y), some (xm_r (30, 0, 0)), none] [] (c, fi, fl, r) R from go_inr (by decide) (Nat.le_of_ble_eq_true rfl) (key _ rfl)
  intro R hR
  refine pg_139_0 rfl ?_
  refine pg_139_1 ?_
  refine pg_139_2 rfl ?_
  refine pg_139_3 rfl ?_
  refine pg_139_4 rfl ?_
  refine pt_139_5 (sk0 hs) (Nat.le_of_ble_eq_true rfl) (ct_32i0 (x := x) (y := y) hs hx v5_g0) (show xm_hd 139 5 0 = some 20 by decide +kernel) ?_
  show xm_G E _ true 139 20 _ _ ((c.1 + 1, c.2 + 6), fi, fl, r) R
  refine pg_139_20 (lv' := [some (xm_r (0, 0, 0)), some (xm_i x), some (xm_i y), some (xm_r (30, 0, 0)), some (xm_r (E.2.2 c.1))]) rfl ?_
  refine pg_139_22 ?_
  exact go_eq hR.symm (pg_139_23)
theorem ct_139i1 {n : Nat} {E : xm_E} {c : Nat × Nat} {fi : FI} {fl : FL} {r : xm_I → Nat → Option xm_I} {d : Nat} {x : Int32} {y : Int32} (hs : sh n E c r) (hx : 200 ≤ (E.1 (E.2.2 c.1)).1) (v5_g0 : ¬ (bI (sp_8 n x)) = 0) (v5_g1 : (bI (sp_8 n y)) = 0) : xm_C E (d + 6) true 139 [xm_r (0, 0, 0), xm_i x, xm_i y, xm_r (30, 0, 0)] (c, fi, fl, r) (.inl (some (xm_i (1 : Int32))), ((c.1 + 1, c.2 + 6), fi, fl, r)) := by
  have hn := sh_n hs
  suffices key : ∀ R : xm_O, ((.inl (some (xm_i (1 : Int32))), ((c.1 + 1, c.2 + 6), fi, fl, r)) : xm_O) = R → xm_G E (d + 5) true 139 0 [some (xm_r (0, 0, 0)), some (xm_i x), some (xm_i y), some (xm_r (30, 0, 0)), none] [] (c, fi, fl, r) R from go_inr (by decide) (Nat.le_of_ble_eq_true rfl) (key _ rfl)
  intro R hR
  refine pg_139_0 rfl ?_
  refine pg_139_1 ?_
  refine pg_139_2 rfl ?_
  refine pg_139_3 rfl ?_
  refine pg_139_4 rfl ?_
  refine pt_139_5 (sk0 hs) (Nat.le_of_ble_eq_true rfl) (ct_32i1 (x := x) (y := y) hs hx v5_g0 v5_g1) (show xm_hd 139 5 0 = some 20 by decide +kernel) ?_
  show xm_G E _ true 139 20 _ _ ((c.1 + 1, c.2 + 6), fi, fl, r) R
  refine pg_139_20 (lv' := [some (xm_r (0, 0, 0)), some (xm_i x), some (xm_i y), some (xm_r (30, 0, 0)), some (xm_r (E.2.2 c.1))]) rfl ?_
  refine pg_139_22 ?_
  exact go_eq hR.symm (pg_139_23)
theorem ct_140v0 {n : Nat} {E : xm_E} {c : Nat × Nat} {fi : FI} {fl : FL} {r : xm_I → Nat → Option xm_I} {d : Nat} {p : Nat} (hs : sh n E c r) (hp : p < n) : xm_C E (d + 3) true 140 [xm_r (0, 0, 0), xm_i (nI p), xm_r (30, 0, 0)] (c, fi, fl, r) (.inl (some (xm_i (0 : Int32))), (c, fi, (xm_up fl (30, 0, 0) 0 ((fi (5, 0, 0) p).toInt64)), r)) := by
  have hn := sh_n hs
  suffices key : ∀ R : xm_O, ((.inl (some (xm_i (0 : Int32))), (c, fi, (xm_up fl (30, 0, 0) 0 ((fi (5, 0, 0) p).toInt64)), r)) : xm_O) = R → xm_G E (d + 2) true 140 0 [some (xm_r (0, 0, 0)), some (xm_i (nI p)), some (xm_r (30, 0, 0)), none] [] (c, fi, fl, r) R from go_inr (by decide) (Nat.le_of_ble_eq_true rfl) (key _ rfl)
  intro R hR
  refine pg_140_0 rfl ?_
  refine pg_140_1 ?_
  refine pg_140_2 rfl ?_
  refine pg_140_3 rfl ?_
  refine pg_140_4 (sk0 hs) (Nat.le_of_ble_eq_true rfl) (ct_33v0 (p := p) hs (by omega)) ?_
  refine pg_140_7 ?_
  refine pg_140_8 (sk30 hs) (i := 0) (rfl : (0 : Int32) = nI 0) (by omega) (by omega) ?_
  refine pg_140_9 ?_
  refine pg_140_15 ?_
  exact go_eq hR.symm (pg_140_16)
theorem ct_140a0 {n : Nat} {E : xm_E} {c : Nat × Nat} {fi : FI} {fl : FL} {r : xm_I → Nat → Option xm_I} {d : Nat} {m : Nat} (hs : sh n E c r) (hm : m = n) (v4_g0 : (bI (sp_8 n (nI m))) = 0) (v4_g1 : (nI m) = (nI (sp_21 n))) : xm_C E (d + 3) true 140 [xm_r (0, 0, 0), xm_i (nI m), xm_r (30, 0, 0)] (c, fi, fl, r) (.inl (some (xm_i (0 : Int32))), (c, fi, (xm_up fl (30, 0, 0) 0 ((fi (5, 0, 0) m).toInt64)), r)) := by
  have hn := sh_n hs
  suffices key : ∀ R : xm_O, ((.inl (some (xm_i (0 : Int32))), (c, fi, (xm_up fl (30, 0, 0) 0 ((fi (5, 0, 0) m).toInt64)), r)) : xm_O) = R → xm_G E (d + 2) true 140 0 [some (xm_r (0, 0, 0)), some (xm_i (nI m)), some (xm_r (30, 0, 0)), none] [] (c, fi, fl, r) R from go_inr (by decide) (Nat.le_of_ble_eq_true rfl) (key _ rfl)
  intro R hR
  refine pg_140_0 rfl ?_
  refine pg_140_1 ?_
  refine pg_140_2 rfl ?_
  refine pg_140_3 rfl ?_
  refine pg_140_4 (sk0 hs) (Nat.le_of_ble_eq_true rfl) (ct_33a0 (m := m) hs hm v4_g0 v4_g1) ?_
  refine pg_140_7 ?_
  refine pg_140_8 (sk30 hs) (i := 0) (rfl : (0 : Int32) = nI 0) (by omega) (by omega) ?_
  refine pg_140_9 ?_
  refine pg_140_15 ?_
  exact go_eq hR.symm (pg_140_16)
theorem ct_140a1 {n : Nat} {E : xm_E} {c : Nat × Nat} {fi : FI} {fl : FL} {r : xm_I → Nat → Option xm_I} {d : Nat} {m : Nat} (hs : sh n E c r) (hm : m = n) (hx : 200 ≤ (E.1 (E.2.2 c.1)).1) (v4_g0 : (bI (sp_8 n (nI m))) = 0) (v4_g1 : ¬ (nI m) = (nI (sp_21 n))) : xm_C E (d + 6) true 140 [xm_r (0, 0, 0), xm_i (nI m), xm_r (30, 0, 0)] (c, fi, fl, r) (.inl (some (xm_i (1 : Int32))), ((c.1 + 1, c.2 + 6), fi, fl, r)) := by
  have hn := sh_n hs
  suffices key : ∀ R : xm_O, ((.inl (some (xm_i (1 : Int32))), ((c.1 + 1, c.2 + 6), fi, fl, r)) : xm_O) = R → xm_G E (d + 5) true 140 0 [some (xm_r (0, 0, 0)), some (xm_i (nI m)), some (xm_r (30, 0, 0)), none] [] (c, fi, fl, r) R from go_inr (by decide) (Nat.le_of_ble_eq_true rfl) (key _ rfl)
  intro R hR
  refine pg_140_0 rfl ?_
  refine pg_140_1 ?_
  refine pg_140_2 rfl ?_
  refine pg_140_3 rfl ?_
  refine pt_140_4 (sk0 hs) (Nat.le_of_ble_eq_true rfl) (ct_33a1 (m := m) hs hm hx v4_g0 v4_g1) (show xm_hd 140 4 0 = some 12 by decide +kernel) ?_
  show xm_G E _ true 140 12 _ _ ((c.1 + 1, c.2 + 6), fi, fl, r) R
  refine pg_140_12 (lv' := [some (xm_r (0, 0, 0)), some (xm_i (nI m)), some (xm_r (30, 0, 0)), some (xm_r (E.2.2 c.1))]) rfl ?_
  refine pg_140_13 ?_
  exact go_eq hR.symm (pg_140_14)
theorem ct_140a2 {n : Nat} {E : xm_E} {c : Nat × Nat} {fi : FI} {fl : FL} {r : xm_I → Nat → Option xm_I} {d : Nat} {m : Nat} (hs : sh n E c r) (hm : m = n) (v4_g0 : ¬ (bI (sp_8 n (nI m))) = 0) : xm_C E (d + 3) true 140 [xm_r (0, 0, 0), xm_i (nI m), xm_r (30, 0, 0)] (c, fi, fl, r) (.inl (some (xm_i (0 : Int32))), (c, fi, (xm_up fl (30, 0, 0) 0 ((fi (5, 0, 0) m).toInt64)), r)) := by
  have hn := sh_n hs
  suffices key : ∀ R : xm_O, ((.inl (some (xm_i (0 : Int32))), (c, fi, (xm_up fl (30, 0, 0) 0 ((fi (5, 0, 0) m).toInt64)), r)) : xm_O) = R → xm_G E (d + 2) true 140 0 [some (xm_r (0, 0, 0)), some (xm_i (nI m)), some (xm_r (30, 0, 0)), none] [] (c, fi, fl, r) R from go_inr (by decide) (Nat.le_of_ble_eq_true rfl) (key _ rfl)
  intro R hR
  refine pg_140_0 rfl ?_
  refine pg_140_1 ?_
  refine pg_140_2 rfl ?_
  refine pg_140_3 rfl ?_
  refine pg_140_4 (sk0 hs) (Nat.le_of_ble_eq_true rfl) (ct_33a2 (m := m) hs hm v4_g0) ?_
  refine pg_140_7 ?_
  refine pg_140_8 (sk30 hs) (i := 0) (rfl : (0 : Int32) = nI 0) (by omega) (by omega) ?_
  refine pg_140_9 ?_
  refine pg_140_15 ?_
  exact go_eq hR.symm (pg_140_16)
theorem ct_140i0 {n : Nat} {E : xm_E} {c : Nat × Nat} {fi : FI} {fl : FL} {r : xm_I → Nat → Option xm_I} {d : Nat} {x : Int32} (hs : sh n E c r) (hx : 200 ≤ (E.1 (E.2.2 c.1)).1) (v4_g0 : (bI (sp_8 n x)) = 0) (v4_g1 : ¬ x = (nI (sp_21 n))) : xm_C E (d + 6) true 140 [xm_r (0, 0, 0), xm_i x, xm_r (30, 0, 0)] (c, fi, fl, r) (.inl (some (xm_i (1 : Int32))), ((c.1 + 1, c.2 + 6), fi, fl, r)) := by
  have hn := sh_n hs
  suffices key : ∀ R : xm_O, ((.inl (some (xm_i (1 : Int32))), ((c.1 + 1, c.2 + 6), fi, fl, r)) : xm_O) = R → xm_G E (d + 5) true 140 0 [some (xm_r (0, 0, 0)), some (xm_i x), some (xm_r (30, 0, 0)), none] [] (c, fi, fl, r) R from go_inr (by decide) (Nat.le_of_ble_eq_true rfl) (key _ rfl)
  intro R hR
  refine pg_140_0 rfl ?_
  refine pg_140_1 ?_
  refine pg_140_2 rfl ?_
  refine pg_140_3 rfl ?_
  refine pt_140_4 (sk0 hs) (Nat.le_of_ble_eq_true rfl) (ct_33i0 (x := x) hs hx v4_g0 v4_g1) (show xm_hd 140 4 0 = some 12 by decide +kernel) ?_
  show xm_G E _ true 140 12 _ _ ((c.1 + 1, c.2 + 6), fi, fl, r) R
  refine pg_140_12 (lv' := [some (xm_r (0, 0, 0)), some (xm_i x), some (xm_r (30, 0, 0)), some (xm_r (E.2.2 c.1))]) rfl ?_
  refine pg_140_13 ?_
  exact go_eq hR.symm (pg_140_14)
theorem ct_141l0 {n : Nat} {E : xm_E} {c : Nat × Nat} {fi : FI} {fl : FL} {r : xm_I → Nat → Option xm_I} {d : Nat} {x : Int32} {y : Int32} {z : Int32} {w : Int32} (hs : sh n E c r) (hx : 200 ≤ (E.1 (E.2.2 c.1)).1) (v9_g0 : (bI (sp_125 x y z)) = 0) : xm_C E (d + 6) true 141 [xm_r (0, 0, 0), xm_i x, xm_i y, xm_i z, xm_i w, xm_r (30, 0, 0)] (c, fi, fl, r) (.inl (some (xm_i (1 : Int32))), ((c.1 + 1, c.2 + 6), fi, fl, r)) := by
  have hn := sh_n hs
  suffices key : ∀ R : xm_O, ((.inl (some (xm_i (1 : Int32))), ((c.1 + 1, c.2 + 6), fi, fl, r)) : xm_O) = R → xm_G E (d + 5) true 141 0 [some (xm_r (0, 0, 0)), some (xm_i x), some (xm_i y), some (xm_i z), some (xm_i w), some (xm_r (30, 0, 0)), none] [] (c, fi, fl, r) R from go_inr (by decide) (Nat.le_of_ble_eq_true rfl) (key _ rfl)
  intro R hR
  refine pg_141_0 rfl ?_
  refine pg_141_2 ?_
  refine pg_141_3 rfl ?_
  refine pg_141_4 rfl ?_
  refine pg_141_5 rfl ?_
  refine pg_141_6 rfl ?_
  refine pg_141_7 rfl ?_
  refine pt_141_9 (sk0 hs) (Nat.le_of_ble_eq_true rfl) (ct_34l0 (x := x) (y := y) (z := z) (w := w) hs hx v9_g0) (show xm_hd 141 9 0 = some 16 by decide +kernel) ?_
  show xm_G E _ true 141 16 _ _ ((c.1 + 1, c.2 + 6), fi, fl, r) R
  refine pg_141_16 (lv' := [some (xm_r (0, 0, 0)), some (xm_i x), some (xm_i y), some (xm_i z), some (xm_i w), some (xm_r (30, 0, 0)), some (xm_r (E.2.2 c.1))]) rfl ?_
  refine pg_141_18 ?_
  exact go_eq hR.symm (pg_141_19)
theorem ct_141l1 {n : Nat} {E : xm_E} {c : Nat × Nat} {fi : FI} {fl : FL} {r : xm_I → Nat → Option xm_I} {d : Nat} {x : Int32} {y : Int32} {z : Int32} {w : Int32} (hs : sh n E c r) (v9_g0 : ¬ (bI (sp_125 x y z)) = 0) : xm_C E (d + 4) true 141 [xm_r (0, 0, 0), xm_i x, xm_i y, xm_i z, xm_i w, xm_r (30, 0, 0)] (c, fi, fl, r) (.inl (some (xm_i (0 : Int32))), (c, fi, (xm_up fl (30, 0, 0) 0 (sp_120 x y z w)), r)) := by
  have hn := sh_n hs
  suffices key : ∀ R : xm_O, ((.inl (some (xm_i (0 : Int32))), (c, fi, (xm_up fl (30, 0, 0) 0 (sp_120 x y z w)), r)) : xm_O) = R → xm_G E (d + 3) true 141 0 [some (xm_r (0, 0, 0)), some (xm_i x), some (xm_i y), some (xm_i z), some (xm_i w), some (xm_r (30, 0, 0)), none] [] (c, fi, fl, r) R from go_inr (by decide) (Nat.le_of_ble_eq_true rfl) (key _ rfl)
  intro R hR
  refine pg_141_0 rfl ?_
  refine pg_141_2 ?_
  refine pg_141_3 rfl ?_
  refine pg_141_4 rfl ?_
  refine pg_141_5 rfl ?_
  refine pg_141_6 rfl ?_
  refine pg_141_7 rfl ?_
  refine pg_141_9 (sk0 hs) (Nat.le_of_ble_eq_true rfl) (ct_34l1 (x := x) (y := y) (z := z) (w := w) hs v9_g0) ?_
  refine pg_141_12 (sk30 hs) (i := 0) (rfl : (0 : Int32) = nI 0) (by omega) (by omega) ?_
  refine pg_141_13 ?_
  refine pg_141_20 ?_
  exact go_eq hR.symm (pg_141_21)
theorem ct_131i0 {n : Nat} {E : xm_E} {c : Nat × Nat} {fi : FI} {fl : FL} {r : xm_I → Nat → Option xm_I} {d : Nat} {x : Int32} (hs : sh n E c r) (hx : 200 ≤ (E.1 (E.2.2 c.1)).1) (v4_g0 : x < (1 : Int32)) : xm_C E (d + 8) true 131 [xm_r (0, 0, 0), xm_i x, xm_r (30, 0, 0)] (c, fi, fl, r) (.inl (some (xm_i (1 : Int32))), ((c.1 + 1, c.2 + 6), fi, fl, r)) := by
  have hn := sh_n hs
  suffices key : ∀ R : xm_O, ((.inl (some (xm_i (1 : Int32))), ((c.1 + 1, c.2 + 6), fi, fl, r)) : xm_O) = R → xm_G E (d + 7) true 131 0 [some (xm_r (0, 0, 0)), some (xm_i x), some (xm_r (30, 0, 0)), none] [] (c, fi, fl, r) R from go_inr (by decide) (Nat.le_of_ble_eq_true rfl) (key _ rfl)
  intro R hR
  refine pg_131_0 rfl ?_
  refine pg_131_1 ?_
  refine pg_131_2 rfl ?_
  refine pg_131_3 rfl ?_
  refine pt_131_4 (sk0 hs) (Nat.le_of_ble_eq_true rfl) (ct_13i0 (x := x) hs hx v4_g0) (show xm_hd 131 4 0 = some 12 by decide +kernel) ?_
  show xm_G E _ true 131 12 _ _ ((c.1 + 1, c.2 + 6), fi, fl, r) R
  refine pg_131_12 (lv' := [some (xm_r (0, 0, 0)), some (xm_i x), some (xm_r (30, 0, 0)), some (xm_r (E.2.2 c.1))]) rfl ?_
  refine pg_131_13 ?_
  exact go_eq hR.symm (pg_131_14)
theorem ct_131i2 {n : Nat} {E : xm_E} {c : Nat × Nat} {fi : FI} {fl : FL} {r : xm_I → Nat → Option xm_I} {d : Nat} {x : Int32} (hs : sh n E c r) (hx : 200 ≤ (E.1 (E.2.2 c.1)).1) (v4_g0 : ¬ x < (1 : Int32)) (v4_g1 : ¬ x ≤ (4 : Int32)) : xm_C E (d + 8) true 131 [xm_r (0, 0, 0), xm_i x, xm_r (30, 0, 0)] (c, fi, fl, r) (.inl (some (xm_i (1 : Int32))), ((c.1 + 1, c.2 + 6), fi, fl, r)) := by
  have hn := sh_n hs
  suffices key : ∀ R : xm_O, ((.inl (some (xm_i (1 : Int32))), ((c.1 + 1, c.2 + 6), fi, fl, r)) : xm_O) = R → xm_G E (d + 7) true 131 0 [some (xm_r (0, 0, 0)), some (xm_i x), some (xm_r (30, 0, 0)), none] [] (c, fi, fl, r) R from go_inr (by decide) (Nat.le_of_ble_eq_true rfl) (key _ rfl)
  intro R hR
  refine pg_131_0 rfl ?_
  refine pg_131_1 ?_
  refine pg_131_2 rfl ?_
  refine pg_131_3 rfl ?_
  refine pt_131_4 (sk0 hs) (Nat.le_of_ble_eq_true rfl) (ct_13i2 (x := x) hs hx v4_g0 v4_g1) (show xm_hd 131 4 0 = some 12 by decide +kernel) ?_
  show xm_G E _ true 131 12 _ _ ((c.1 + 1, c.2 + 6), fi, fl, r) R
  refine pg_131_12 (lv' := [some (xm_r (0, 0, 0)), some (xm_i x), some (xm_r (30, 0, 0)), some (xm_r (E.2.2 c.1))]) rfl ?_
  refine pg_131_13 ?_
  exact go_eq hR.symm (pg_131_14)
theorem ct_131v {n : Nat} {E : xm_E} {c : Nat × Nat} {fi : FI} {fl : FL} {r : xm_I → Nat → Option xm_I} {d : Nat} {m : Nat} (hs : sh n E c r) (h1 : 1 ≤ m) (h4 : m ≤ 4) (hf : fz n fi) : xm_C E (d + 8) true 131 [xm_r (0, 0, 0), xm_i (nI m), xm_r (30, 0, 0)] (c, fi, fl, r) (.inl (some (xm_i (0 : Int32))), (c, ((sp_13 n fi fl m).2), (xm_up fl (30, 0, 0) 0 (((sp_13 n fi fl m).1).toInt64)), r)) := by
  have hn := sh_n hs
  suffices key : ∀ R : xm_O, ((.inl (some (xm_i (0 : Int32))), (c, ((sp_13 n fi fl m).2), (xm_up fl (30, 0, 0) 0 (((sp_13 n fi fl m).1).toInt64)), r)) : xm_O) = R → xm_G E (d + 7) true 131 0 [some (xm_r (0, 0, 0)), some (xm_i (nI m)), some (xm_r (30, 0, 0)), none] [] (c, fi, fl, r) R from go_inr (by decide) (Nat.le_of_ble_eq_true rfl) (key _ rfl)
  intro R hR
  refine pg_131_0 rfl ?_
  refine pg_131_1 ?_
  refine pg_131_2 rfl ?_
  refine pg_131_3 rfl ?_
  refine pg_131_4 (sk0 hs) (Nat.le_of_ble_eq_true rfl) (ct_13 (m := m) hs (by omega) (by omega) (fz_kp hf (kp_re [4, 5, 6, 203, 204, 205, 206, 207, 208, 209, 210, 500, 703, 710, 711, 712, 800, 900, 1000, 1300] fi) rfl rfl rfl)) ?_
  refine pg_131_7 ?_
  refine pg_131_8 (sk30 hs) (i := 0) (rfl : (0 : Int32) = nI 0) (by omega) (by omega) ?_
  refine pg_131_9 ?_
  refine pg_131_15 ?_
  exact go_eq hR.symm (pg_131_16)
theorem ct_126 {E : xm_E} {h : xm_H} {d : Nat} {md : Bool} {L k : Nat} (hsc : E.1 (40, 0, 0) = (110, L)) (hL : L < 100000) (hk : k < 100000) : xm_C E (d + 1) md 126 [xm_r (40, 0, 0), xm_i (nI k)] h (.inl (some (xm_i (if k < L then h.2.1 (40, 0, 0) k else 0))), h) := by
  obtain ⟨c, fi, fl, r⟩ := h
  refine go_inr (by decide) (Nat.le_of_ble_eq_true rfl) ?_
  show xm_G E (d + 0) md 126 0 [some (xm_r (40, 0, 0)), some (xm_i (nI k))] [] (c, fi, fl, r) (.inl (some (xm_i (if k < L then fi (40, 0, 0) k else 0))), (c, fi, fl, r))
  refine pg_126_0 rfl ?_
  refine pg_126_1 rfl ?_
  refine pg_126_2 (t := 110) (n := L) (Or.inl hsc) ?_
  rcases Nat.lt_or_ge k L with h | h
  · refine pg_126_3 (fun hc => absurd hc (nI_ge h (by omega))) (fun _ => ?_)
    refine pg_126_6 rfl ?_
    refine pg_126_7 rfl ?_
    refine pg_126_8 (n := L) (Or.inr hsc) (i := k) rfl h hL ?_
    refine pg_126_9 ?_
    rw [if_pos h]
    exact pg_126_13
  · refine pg_126_3 (fun _ => ?_) (fun hc => absurd (nI_le h (by omega)) hc)
    refine pg_126_12 ?_
    rw [if_neg (by omega)]
    exact pg_126_13
