/-! Lines through the methods that the law calls. Written by wip/whole/prog. -/
theorem sp8_ok {n p : Nat} (h : p < n) (hn : n < 1000) : sp_8 n (nI p) = true := by
  unfold sp_8
  rw [if_neg (nI_pos (by omega)), if_neg (nI_ge h (by omega))]
theorem isn_ok {n p : Nat} (h : p < n) (hn : n < 1000) : ¬ bI (sp_8 n (nI p)) = 0 := by
  rw [sp8_ok h hn]
  decide
theorem sp99_ok {n p : Nat} (h : p < n) (hn : n < 1000) : sp_99 n (nI p) = false := by
  unfold sp_99
  rw [if_neg (nI_pos (by omega)), if_pos (nI_lt h (by omega))]
theorem nno_ok {n p : Nat} (h : p < n) (hn : n < 1000) : bI (sp_99 n (nI p)) = 0 := by
  rw [sp99_ok h hn]
  rfl
theorem ct_2l0 {n : Nat} {E : xm_E} {c : Nat × Nat} {fi : FI} {fl : FL} {r : xm_I → Nat → Option xm_I} {d : Nat} {x : Int32} (hs : sh n E c r) : xm_C E (d + 1) true 2 [xm_r (0, 0, 0), xm_i x] (c, fi, fl, r) (.inl (none), (c, (xm_up fi (1, 0, 0) 1 x), fl, r)) := by
  have hn := sh_n hs
  suffices key : ∀ R : xm_O, ((.inl (none), (c, (xm_up fi (1, 0, 0) 1 x), fl, r)) : xm_O) = R → xm_G E (d + 0) true 2 0 [some (xm_r (0, 0, 0)), some (xm_i x)] [] (c, fi, fl, r) R from go_inr (by decide) (Nat.le_of_ble_eq_true rfl) (key _ rfl)
  intro R hR
  refine pg_2_0 rfl ?_
  refine pg_2_1 (sk0 hs) (sr0_0 hs) ?_
  refine pg_2_4 rfl ?_
  refine pg_2_5 (sk1 hs) ?_
  exact go_eq hR.symm (pg_2_8)
theorem ct_3l0 {n : Nat} {E : xm_E} {c : Nat × Nat} {fi : FI} {fl : FL} {r : xm_I → Nat → Option xm_I} {d : Nat} {md : Bool} (hs : sh n E c r) : xm_C E (d + 1) md 3 [xm_r (0, 0, 0)] (c, fi, fl, r) (.inl (some (xm_i (fi (0, 0, 0) 5))), (c, fi, fl, r)) := by
  have hn := sh_n hs
  suffices key : ∀ R : xm_O, ((.inl (some (xm_i (fi (0, 0, 0) 5))), (c, fi, fl, r)) : xm_O) = R → xm_G E (d + 0) md 3 0 [some (xm_r (0, 0, 0))] [] (c, fi, fl, r) R from go_inr (by decide) (Nat.le_of_ble_eq_true rfl) (key _ rfl)
  intro R hR
  refine pg_3_0 rfl ?_
  refine pg_3_1 (sk0 hs) ?_
  exact go_eq hR.symm (pg_3_4)
theorem ct_4l0 {n : Nat} {E : xm_E} {c : Nat × Nat} {fi : FI} {fl : FL} {r : xm_I → Nat → Option xm_I} {d : Nat} {md : Bool} (hs : sh n E c r) : xm_C E (d + 1) md 4 [xm_r (0, 0, 0)] (c, fi, fl, r) (.inl (some (xm_i (fi (0, 0, 0) 6))), (c, fi, fl, r)) := by
  have hn := sh_n hs
  suffices key : ∀ R : xm_O, ((.inl (some (xm_i (fi (0, 0, 0) 6))), (c, fi, fl, r)) : xm_O) = R → xm_G E (d + 0) md 4 0 [some (xm_r (0, 0, 0))] [] (c, fi, fl, r) R from go_inr (by decide) (Nat.le_of_ble_eq_true rfl) (key _ rfl)
  intro R hR
  refine pg_4_0 rfl ?_
  refine pg_4_1 (sk0 hs) ?_
  exact go_eq hR.symm (pg_4_4)
theorem ct_5l0 {n : Nat} {E : xm_E} {c : Nat × Nat} {fi : FI} {fl : FL} {r : xm_I → Nat → Option xm_I} {d : Nat} {md : Bool} (hs : sh n E c r) : xm_C E (d + 1) md 5 [xm_r (0, 0, 0)] (c, fi, fl, r) (.inl (some (xm_i (fi (2, 0, 0) 3))), (c, fi, fl, r)) := by
  have hn := sh_n hs
  suffices key : ∀ R : xm_O, ((.inl (some (xm_i (fi (2, 0, 0) 3))), (c, fi, fl, r)) : xm_O) = R → xm_G E (d + 0) md 5 0 [some (xm_r (0, 0, 0))] [] (c, fi, fl, r) R from go_inr (by decide) (Nat.le_of_ble_eq_true rfl) (key _ rfl)
  intro R hR
  refine pg_5_0 rfl ?_
  refine pg_5_1 (sk0 hs) (sr0_1 hs) ?_
  refine pg_5_4 (sk2 hs) ?_
  exact go_eq hR.symm (pg_5_7)
theorem ct_6l0 {n : Nat} {E : xm_E} {c : Nat × Nat} {fi : FI} {fl : FL} {r : xm_I → Nat → Option xm_I} {d : Nat} {md : Bool} {f : Int64} (hs : sh n E c r) : xm_C E (d + 3) md 6 [xm_r (0, 0, 0), xm_l f] (c, fi, fl, r) (.inl (some (xm_i (bI (sp_118 f)))), (c, fi, fl, r)) := by
  have hn := sh_n hs
  suffices key : ∀ R : xm_O, ((.inl (some (xm_i (bI (sp_118 f)))), (c, fi, fl, r)) : xm_O) = R → xm_G E (d + 2) md 6 0 [some (xm_r (0, 0, 0)), some (xm_l f), none] [] (c, fi, fl, r) R from go_inr (by decide) (Nat.le_of_ble_eq_true rfl) (key _ rfl)
  intro R hR
  refine pg_6_0 rfl ?_
  refine pg_6_1 (Nat.le_of_ble_eq_true rfl) (ct_118 (f := f)) ?_
  exact go_eq hR.symm (pg_6_4 (bI_01 _))
theorem ct_7v0 {n : Nat} {E : xm_E} {c : Nat × Nat} {fi : FI} {fl : FL} {r : xm_I → Nat → Option xm_I} {d : Nat} {p : Nat} {y : Int32} (hs : sh n E c r) (hp : p < n) : xm_C E (d + 2) true 7 [xm_r (0, 0, 0), xm_i (nI p), xm_i y] (c, fi, fl, r) (.inl (some (xm_i (fi (7, p, 0) 2))), (c, (xm_up fi (7, p, 0) 2 y), fl, r)) := by
  have hn := sh_n hs
  suffices key : ∀ R : xm_O, ((.inl (some (xm_i (fi (7, p, 0) 2))), (c, (xm_up fi (7, p, 0) 2 y), fl, r)) : xm_O) = R → xm_G E (d + 1) true 7 0 [some (xm_r (0, 0, 0)), some (xm_i (nI p)), some (xm_i y), none] [] (c, fi, fl, r) R from go_inr (by decide) (Nat.le_of_ble_eq_true rfl) (key _ rfl)
  intro R hR
  refine pg_7_0 rfl ?_
  refine pg_7_1 rfl ?_
  refine pg_7_2 (sk0 hs) (Nat.le_of_ble_eq_true rfl) (ct_8 (x := (nI p)) hs) ?_
  refine pg_7_5 (fun _ => ?_) (fun hc => absurd hc (isn_ok (n := n) (p := p) (by omega) (by omega)))
  refine pg_7_16 rfl ?_
  refine pg_7_17 (sk0 hs) (sr0_2 hs) ?_
  refine pg_7_20 rfl ?_
  refine pg_7_21 (sk6 hs) (by decide) (i := p) rfl (by omega) (by omega) (sr6 hs (i := p) (by omega)) ?_
  refine pg_7_22 (sk7 hs (i := p) (by omega)) ?_
  refine pg_7_25 (lv' := [some (xm_r (0, 0, 0)), some (xm_i (nI p)), some (xm_i y), some (xm_i (fi (7, p, 0) 2))]) rfl ?_
  refine pg_7_26 rfl ?_
  refine pg_7_27 (sk0 hs) (sr0_2 hs) ?_
  refine pg_7_30 rfl ?_
  refine pg_7_31 (sk6 hs) (by decide) (i := p) rfl (by omega) (by omega) (sr6 hs (i := p) (by omega)) ?_
  refine pg_7_32 rfl ?_
  refine pg_7_33 (sk7 hs (i := p) (by omega)) ?_
  refine pg_7_36 rfl ?_
  exact go_eq hR.symm (pg_7_37)
theorem ct_7i0 {n : Nat} {E : xm_E} {c : Nat × Nat} {fi : FI} {fl : FL} {r : xm_I → Nat → Option xm_I} {d : Nat} {x : Int32} {y : Int32} (hs : sh n E c r) (hx : 200 ≤ (E.1 (E.2.2 c.1)).1) (g0 : (bI (sp_8 n x)) = 0) : xm_C E (d + 5) false 7 [xm_r (0, 0, 0), xm_i x, xm_i y] (c, fi, fl, r) (.inr (E.2.2 c.1, 0), ((c.1 + 1, c.2 + 6), fi, fl, r)) := by
  have hn := sh_n hs
  suffices key : ∀ R : xm_O, ((.inr (E.2.2 c.1, 0), ((c.1 + 1, c.2 + 6), fi, fl, r)) : xm_O) = R → xm_G E (d + 4) false 7 0 [some (xm_r (0, 0, 0)), some (xm_i x), some (xm_i y), none] [] (c, fi, fl, r) R from go_in (by decide) (Nat.le_of_ble_eq_true rfl) (fun _ _ => by omega) (key _ rfl)
  intro R hR
  refine pg_7_0 rfl ?_
  refine pg_7_1 rfl ?_
  refine pg_7_2 (sk0 hs) (Nat.le_of_ble_eq_true rfl) (ct_8 (x := x) hs) ?_
  refine pg_7_5 (fun hc => absurd g0 hc) (fun _ => ?_)
  exact go_eq hR.symm (pg_7_8 rfl hx)
theorem ct_9l0 {n : Nat} {E : xm_E} {c : Nat × Nat} {fi : FI} {fl : FL} {r : xm_I → Nat → Option xm_I} {d : Nat} {x : Int32} {y : Int32} {z : Int32} (hs : sh n E c r) (hx : 200 ≤ (E.1 (E.2.2 c.1)).1) (g0 : (bI (sp_10 x)) = 0) : xm_C E (d + 5) false 9 [xm_r (0, 0, 0), xm_i x, xm_i y, xm_i z] (c, fi, fl, r) (.inr (E.2.2 c.1, 0), ((c.1 + 1, c.2 + 6), fi, fl, r)) := by
  have hn := sh_n hs
  suffices key : ∀ R : xm_O, ((.inr (E.2.2 c.1, 0), ((c.1 + 1, c.2 + 6), fi, fl, r)) : xm_O) = R → xm_G E (d + 4) false 9 0 [some (xm_r (0, 0, 0)), some (xm_i x), some (xm_i y), some (xm_i z)] [] (c, fi, fl, r) R from go_in (by decide) (Nat.le_of_ble_eq_true rfl) (fun _ _ => by omega) (key _ rfl)
  intro R hR
  refine pg_9_0 rfl ?_
  refine pg_9_1 (Nat.le_of_ble_eq_true rfl) (ct_10 (x := x)) ?_
  refine pg_9_4 (fun _ => ?_) (fun hc => absurd g0 hc)
  exact go_eq hR.symm (pg_9_21 rfl hx)
theorem ct_9l1 {n : Nat} {E : xm_E} {c : Nat × Nat} {fi : FI} {fl : FL} {r : xm_I → Nat → Option xm_I} {d : Nat} {x : Int32} {y : Int32} {z : Int32} (hs : sh n E c r) (hx : 200 ≤ (E.1 (E.2.2 c.1)).1) (g0 : ¬ (bI (sp_10 x)) = 0) (g1 : (bI (sp_10 y)) = 0) : xm_C E (d + 5) false 9 [xm_r (0, 0, 0), xm_i x, xm_i y, xm_i z] (c, fi, fl, r) (.inr (E.2.2 c.1, 0), ((c.1 + 1, c.2 + 6), fi, fl, r)) := by
  have hn := sh_n hs
  suffices key : ∀ R : xm_O, ((.inr (E.2.2 c.1, 0), ((c.1 + 1, c.2 + 6), fi, fl, r)) : xm_O) = R → xm_G E (d + 4) false 9 0 [some (xm_r (0, 0, 0)), some (xm_i x), some (xm_i y), some (xm_i z)] [] (c, fi, fl, r) R from go_in (by decide) (Nat.le_of_ble_eq_true rfl) (fun _ _ => by omega) (key _ rfl)
  intro R hR
  refine pg_9_0 rfl ?_
  refine pg_9_1 (Nat.le_of_ble_eq_true rfl) (ct_10 (x := x)) ?_
  refine pg_9_4 (fun hc => absurd hc g0) (fun _ => ?_)
  refine pg_9_7 rfl ?_
  refine pg_9_8 (Nat.le_of_ble_eq_true rfl) (ct_10 (x := y)) ?_
  refine pg_9_11 (fun _ => ?_) (fun hc => absurd g1 hc)
  exact go_eq hR.symm (pg_9_21 rfl hx)
theorem ct_9l2 {n : Nat} {E : xm_E} {c : Nat × Nat} {fi : FI} {fl : FL} {r : xm_I → Nat → Option xm_I} {d : Nat} {x : Int32} {y : Int32} {z : Int32} (hs : sh n E c r) (hx : 200 ≤ (E.1 (E.2.2 c.1)).1) (g0 : ¬ (bI (sp_10 x)) = 0) (g1 : ¬ (bI (sp_10 y)) = 0) (g2 : (bI (sp_10 z)) = 0) : xm_C E (d + 5) false 9 [xm_r (0, 0, 0), xm_i x, xm_i y, xm_i z] (c, fi, fl, r) (.inr (E.2.2 c.1, 0), ((c.1 + 1, c.2 + 6), fi, fl, r)) := by
  have hn := sh_n hs
  suffices key : ∀ R : xm_O, ((.inr (E.2.2 c.1, 0), ((c.1 + 1, c.2 + 6), fi, fl, r)) : xm_O) = R → xm_G E (d + 4) false 9 0 [some (xm_r (0, 0, 0)), some (xm_i x), some (xm_i y), some (xm_i z)] [] (c, fi, fl, r) R from go_in (by decide) (Nat.le_of_ble_eq_true rfl) (fun _ _ => by omega) (key _ rfl)
  intro R hR
  refine pg_9_0 rfl ?_
  refine pg_9_1 (Nat.le_of_ble_eq_true rfl) (ct_10 (x := x)) ?_
  refine pg_9_4 (fun hc => absurd hc g0) (fun _ => ?_)
  refine pg_9_7 rfl ?_
  refine pg_9_8 (Nat.le_of_ble_eq_true rfl) (ct_10 (x := y)) ?_
  refine pg_9_11 (fun hc => absurd hc g1) (fun _ => ?_)
  refine pg_9_14 rfl ?_
  refine pg_9_15 (Nat.le_of_ble_eq_true rfl) (ct_10 (x := z)) ?_
  refine pg_9_18 (fun hc => absurd g2 hc) (fun _ => ?_)
  exact go_eq hR.symm (pg_9_21 rfl hx)
theorem ct_9l3 {n : Nat} {E : xm_E} {c : Nat × Nat} {fi : FI} {fl : FL} {r : xm_I → Nat → Option xm_I} {d : Nat} {x : Int32} {y : Int32} {z : Int32} (hs : sh n E c r) (g0 : ¬ (bI (sp_10 x)) = 0) (g1 : ¬ (bI (sp_10 y)) = 0) (g2 : ¬ (bI (sp_10 z)) = 0) : xm_C E (d + 2) true 9 [xm_r (0, 0, 0), xm_i x, xm_i y, xm_i z] (c, fi, fl, r) (.inl (none), (c, fi, (xm_up (xm_up (xm_up fl (1, 0, 0) 2 (x.toInt64)) (1, 0, 0) 3 (y.toInt64)) (1, 0, 0) 4 (z.toInt64)), r)) := by
  have hn := sh_n hs
  suffices key : ∀ R : xm_O, ((.inl (none), (c, fi, (xm_up (xm_up (xm_up fl (1, 0, 0) 2 (x.toInt64)) (1, 0, 0) 3 (y.toInt64)) (1, 0, 0) 4 (z.toInt64)), r)) : xm_O) = R → xm_G E (d + 1) true 9 0 [some (xm_r (0, 0, 0)), some (xm_i x), some (xm_i y), some (xm_i z)] [] (c, fi, fl, r) R from go_inr (by decide) (Nat.le_of_ble_eq_true rfl) (key _ rfl)
  intro R hR
  refine pg_9_0 rfl ?_
  refine pg_9_1 (Nat.le_of_ble_eq_true rfl) (ct_10 (x := x)) ?_
  refine pg_9_4 (fun hc => absurd hc g0) (fun _ => ?_)
  refine pg_9_7 rfl ?_
  refine pg_9_8 (Nat.le_of_ble_eq_true rfl) (ct_10 (x := y)) ?_
  refine pg_9_11 (fun hc => absurd hc g1) (fun _ => ?_)
  refine pg_9_14 rfl ?_
  refine pg_9_15 (Nat.le_of_ble_eq_true rfl) (ct_10 (x := z)) ?_
  refine pg_9_18 (fun _ => ?_) (fun hc => absurd hc g2)
  refine pg_9_29 rfl ?_
  refine pg_9_30 (sk0 hs) (sr0_0 hs) ?_
  refine pg_9_33 rfl ?_
  refine pg_9_34 ?_
  refine pg_9_35 (sk1 hs) ?_
  refine pg_9_38 rfl ?_
  refine pg_9_39 (sk0 hs) (sr0_0 hs) ?_
  refine pg_9_42 rfl ?_
  refine pg_9_43 ?_
  refine pg_9_44 (sk1 hs) ?_
  refine pg_9_47 rfl ?_
  refine pg_9_48 (sk0 hs) (sr0_0 hs) ?_
  refine pg_9_51 rfl ?_
  refine pg_9_52 ?_
  refine pg_9_53 (sk1 hs) ?_
  exact go_eq hR.symm (pg_9_56)
theorem ct_11v0 {n : Nat} {E : xm_E} {c : Nat × Nat} {fi : FI} {fl : FL} {r : xm_I → Nat → Option xm_I} {d : Nat} {p : Nat} {x : Int32} {y : Int64} (hs : sh n E c r) (hp : p < n) (hx : 200 ≤ (E.1 (E.2.2 c.1)).1) (g0 : x < 0) : xm_C E (d + 5) false 11 [xm_r (0, 0, 0), xm_i (nI p), xm_i x, xm_l y] (c, fi, fl, r) (.inr (E.2.2 c.1, 0), ((c.1 + 1, c.2 + 6), fi, fl, r)) := by
  have hn := sh_n hs
  suffices key : ∀ R : xm_O, ((.inr (E.2.2 c.1, 0), ((c.1 + 1, c.2 + 6), fi, fl, r)) : xm_O) = R → xm_G E (d + 4) false 11 0 [some (xm_r (0, 0, 0)), some (xm_i (nI p)), some (xm_i x), some (xm_l y), none] [] (c, fi, fl, r) R from go_in (by decide) (Nat.le_of_ble_eq_true rfl) (fun _ _ => by omega) (key _ rfl)
  intro R hR
  refine pg_11_0 rfl ?_
  refine pg_11_1 rfl ?_
  refine pg_11_2 (sk0 hs) (Nat.le_of_ble_eq_true rfl) (ct_8 (x := (nI p)) hs) ?_
  refine pg_11_5 (fun hc => absurd hc (isn_ok (n := n) (p := p) (by omega) (by omega))) (fun _ => ?_)
  refine pg_11_8 rfl ?_
  refine pg_11_9 (fun _ => ?_) (fun hc => absurd g0 hc)
  exact go_eq hR.symm (pg_11_17 rfl hx)
theorem ct_11v1 {n : Nat} {E : xm_E} {c : Nat × Nat} {fi : FI} {fl : FL} {r : xm_I → Nat → Option xm_I} {d : Nat} {p : Nat} {x : Int32} {y : Int64} (hs : sh n E c r) (hp : p < n) (g0 : ¬ x < 0) (g1 : x ≤ (4 : Int32)) : xm_C E (d + 2) true 11 [xm_r (0, 0, 0), xm_i (nI p), xm_i x, xm_l y] (c, fi, fl, r) (.inl (none), (c, (xm_up fi (3, 0, 0) p x), (xm_up fl (4, 0, 0) p y), r)) := by
  have hn := sh_n hs
  suffices key : ∀ R : xm_O, ((.inl (none), (c, (xm_up fi (3, 0, 0) p x), (xm_up fl (4, 0, 0) p y), r)) : xm_O) = R → xm_G E (d + 1) true 11 0 [some (xm_r (0, 0, 0)), some (xm_i (nI p)), some (xm_i x), some (xm_l y), none] [] (c, fi, fl, r) R from go_inr (by decide) (Nat.le_of_ble_eq_true rfl) (key _ rfl)
  intro R hR
  refine pg_11_0 rfl ?_
  refine pg_11_1 rfl ?_
  refine pg_11_2 (sk0 hs) (Nat.le_of_ble_eq_true rfl) (ct_8 (x := (nI p)) hs) ?_
  refine pg_11_5 (fun hc => absurd hc (isn_ok (n := n) (p := p) (by omega) (by omega))) (fun _ => ?_)
  refine pg_11_8 rfl ?_
  refine pg_11_9 (fun hc => absurd hc g0) (fun _ => ?_)
  refine pg_11_12 rfl ?_
  refine pg_11_13 ?_
  refine pg_11_14 (fun _ => ?_) (fun hc => absurd g1 hc)
  refine pg_11_25 rfl ?_
  refine pg_11_26 (sk0 hs) (sr0_1 hs) ?_
  refine pg_11_29 (sk2 hs) (sr2_0 hs) ?_
  refine pg_11_32 rfl ?_
  refine pg_11_33 rfl ?_
  refine pg_11_34 (sk3 hs) (i := p) rfl (by omega) (by omega) ?_
  refine pg_11_35 rfl ?_
  refine pg_11_36 (sk0 hs) (sr0_1 hs) ?_
  refine pg_11_39 (sk2 hs) (sr2_1 hs) ?_
  refine pg_11_42 rfl ?_
  refine pg_11_43 rfl ?_
  refine pg_11_44 (sk4 hs) (i := p) rfl (by omega) (by omega) ?_
  exact go_eq hR.symm (pg_11_45)
theorem ct_11v2 {n : Nat} {E : xm_E} {c : Nat × Nat} {fi : FI} {fl : FL} {r : xm_I → Nat → Option xm_I} {d : Nat} {p : Nat} {x : Int32} {y : Int64} (hs : sh n E c r) (hp : p < n) (hx : 200 ≤ (E.1 (E.2.2 c.1)).1) (g0 : ¬ x < 0) (g1 : ¬ x ≤ (4 : Int32)) : xm_C E (d + 5) false 11 [xm_r (0, 0, 0), xm_i (nI p), xm_i x, xm_l y] (c, fi, fl, r) (.inr (E.2.2 c.1, 0), ((c.1 + 1, c.2 + 6), fi, fl, r)) := by
  have hn := sh_n hs
  suffices key : ∀ R : xm_O, ((.inr (E.2.2 c.1, 0), ((c.1 + 1, c.2 + 6), fi, fl, r)) : xm_O) = R → xm_G E (d + 4) false 11 0 [some (xm_r (0, 0, 0)), some (xm_i (nI p)), some (xm_i x), some (xm_l y), none] [] (c, fi, fl, r) R from go_in (by decide) (Nat.le_of_ble_eq_true rfl) (fun _ _ => by omega) (key _ rfl)
  intro R hR
  refine pg_11_0 rfl ?_
  refine pg_11_1 rfl ?_
  refine pg_11_2 (sk0 hs) (Nat.le_of_ble_eq_true rfl) (ct_8 (x := (nI p)) hs) ?_
  refine pg_11_5 (fun hc => absurd hc (isn_ok (n := n) (p := p) (by omega) (by omega))) (fun _ => ?_)
  refine pg_11_8 rfl ?_
  refine pg_11_9 (fun hc => absurd hc g0) (fun _ => ?_)
  refine pg_11_12 rfl ?_
  refine pg_11_13 ?_
  refine pg_11_14 (fun hc => absurd hc g1) (fun _ => ?_)
  exact go_eq hR.symm (pg_11_17 rfl hx)
theorem ct_11i0 {n : Nat} {E : xm_E} {c : Nat × Nat} {fi : FI} {fl : FL} {r : xm_I → Nat → Option xm_I} {d : Nat} {x : Int32} {y : Int32} {z : Int64} (hs : sh n E c r) (hx : 200 ≤ (E.1 (E.2.2 c.1)).1) (g0 : (bI (sp_8 n x)) = 0) : xm_C E (d + 5) false 11 [xm_r (0, 0, 0), xm_i x, xm_i y, xm_l z] (c, fi, fl, r) (.inr (E.2.2 c.1, 0), ((c.1 + 1, c.2 + 6), fi, fl, r)) := by
  have hn := sh_n hs
  suffices key : ∀ R : xm_O, ((.inr (E.2.2 c.1, 0), ((c.1 + 1, c.2 + 6), fi, fl, r)) : xm_O) = R → xm_G E (d + 4) false 11 0 [some (xm_r (0, 0, 0)), some (xm_i x), some (xm_i y), some (xm_l z), none] [] (c, fi, fl, r) R from go_in (by decide) (Nat.le_of_ble_eq_true rfl) (fun _ _ => by omega) (key _ rfl)
  intro R hR
  refine pg_11_0 rfl ?_
  refine pg_11_1 rfl ?_
  refine pg_11_2 (sk0 hs) (Nat.le_of_ble_eq_true rfl) (ct_8 (x := x) hs) ?_
  refine pg_11_5 (fun _ => ?_) (fun hc => absurd g0 hc)
  exact go_eq hR.symm (pg_11_17 rfl hx)
theorem ct_11i1 {n : Nat} {E : xm_E} {c : Nat × Nat} {fi : FI} {fl : FL} {r : xm_I → Nat → Option xm_I} {d : Nat} {x : Int32} {y : Int32} {z : Int64} (hs : sh n E c r) (hx : 200 ≤ (E.1 (E.2.2 c.1)).1) (g0 : ¬ (bI (sp_8 n x)) = 0) (g1 : y < 0) : xm_C E (d + 5) false 11 [xm_r (0, 0, 0), xm_i x, xm_i y, xm_l z] (c, fi, fl, r) (.inr (E.2.2 c.1, 0), ((c.1 + 1, c.2 + 6), fi, fl, r)) := by
  have hn := sh_n hs
  suffices key : ∀ R : xm_O, ((.inr (E.2.2 c.1, 0), ((c.1 + 1, c.2 + 6), fi, fl, r)) : xm_O) = R → xm_G E (d + 4) false 11 0 [some (xm_r (0, 0, 0)), some (xm_i x), some (xm_i y), some (xm_l z), none] [] (c, fi, fl, r) R from go_in (by decide) (Nat.le_of_ble_eq_true rfl) (fun _ _ => by omega) (key _ rfl)
  intro R hR
  refine pg_11_0 rfl ?_
  refine pg_11_1 rfl ?_
  refine pg_11_2 (sk0 hs) (Nat.le_of_ble_eq_true rfl) (ct_8 (x := x) hs) ?_
  refine pg_11_5 (fun hc => absurd hc g0) (fun _ => ?_)
  refine pg_11_8 rfl ?_
  refine pg_11_9 (fun _ => ?_) (fun hc => absurd g1 hc)
  exact go_eq hR.symm (pg_11_17 rfl hx)
theorem ct_11i2 {n : Nat} {E : xm_E} {c : Nat × Nat} {fi : FI} {fl : FL} {r : xm_I → Nat → Option xm_I} {d : Nat} {x : Int32} {y : Int32} {z : Int64} (hs : sh n E c r) (hx : 200 ≤ (E.1 (E.2.2 c.1)).1) (g0 : ¬ (bI (sp_8 n x)) = 0) (g1 : ¬ y < 0) (g2 : ¬ y ≤ (4 : Int32)) : xm_C E (d + 5) false 11 [xm_r (0, 0, 0), xm_i x, xm_i y, xm_l z] (c, fi, fl, r) (.inr (E.2.2 c.1, 0), ((c.1 + 1, c.2 + 6), fi, fl, r)) := by
  have hn := sh_n hs
  suffices key : ∀ R : xm_O, ((.inr (E.2.2 c.1, 0), ((c.1 + 1, c.2 + 6), fi, fl, r)) : xm_O) = R → xm_G E (d + 4) false 11 0 [some (xm_r (0, 0, 0)), some (xm_i x), some (xm_i y), some (xm_l z), none] [] (c, fi, fl, r) R from go_in (by decide) (Nat.le_of_ble_eq_true rfl) (fun _ _ => by omega) (key _ rfl)
  intro R hR
  refine pg_11_0 rfl ?_
  refine pg_11_1 rfl ?_
  refine pg_11_2 (sk0 hs) (Nat.le_of_ble_eq_true rfl) (ct_8 (x := x) hs) ?_
  refine pg_11_5 (fun hc => absurd hc g0) (fun _ => ?_)
  refine pg_11_8 rfl ?_
  refine pg_11_9 (fun hc => absurd hc g1) (fun _ => ?_)
  refine pg_11_12 rfl ?_
  refine pg_11_13 ?_
  refine pg_11_14 (fun hc => absurd hc g2) (fun _ => ?_)
  exact go_eq hR.symm (pg_11_17 rfl hx)
theorem ct_12v0 {n : Nat} {E : xm_E} {c : Nat × Nat} {fi : FI} {fl : FL} {r : xm_I → Nat → Option xm_I} {d : Nat} {p : Nat} (hs : sh n E c r) (hp : p < n) : xm_C E (d + 2) true 12 [xm_r (0, 0, 0), xm_i (nI p)] (c, fi, fl, r) (.inl (some (xm_i (bI ((sp_44 fi p).1)))), (c, ((sp_44 fi p).2), fl, r)) := by
  have hn := sh_n hs
  suffices key : ∀ R : xm_O, ((.inl (some (xm_i (bI ((sp_44 fi p).1)))), (c, ((sp_44 fi p).2), fl, r)) : xm_O) = R → xm_G E (d + 1) true 12 0 [some (xm_r (0, 0, 0)), some (xm_i (nI p))] [] (c, fi, fl, r) R from go_inr (by decide) (Nat.le_of_ble_eq_true rfl) (key _ rfl)
  intro R hR
  refine pg_12_0 rfl ?_
  refine pg_12_1 rfl ?_
  refine pg_12_2 (sk0 hs) (Nat.le_of_ble_eq_true rfl) (ct_8 (x := (nI p)) hs) ?_
  refine pg_12_5 (fun _ => ?_) (fun hc => absurd hc (isn_ok (n := n) (p := p) (by omega) (by omega)))
  refine pg_12_16 rfl ?_
  refine pg_12_17 (sk0 hs) (sr0_2 hs) ?_
  refine pg_12_20 rfl ?_
  refine pg_12_21 (sk6 hs) (by decide) (i := p) rfl (by omega) (by omega) (sr6 hs (i := p) (by omega)) ?_
  refine pg_12_22 (sk7 hs (i := p) (by omega)) (Nat.le_of_ble_eq_true rfl) (ct_44 (a := p) hs (by omega)) ?_
  exact go_eq hR.symm (pg_12_25 (bI_01 _))
theorem ct_12i0 {n : Nat} {E : xm_E} {c : Nat × Nat} {fi : FI} {fl : FL} {r : xm_I → Nat → Option xm_I} {d : Nat} {x : Int32} (hs : sh n E c r) (hx : 200 ≤ (E.1 (E.2.2 c.1)).1) (g0 : (bI (sp_8 n x)) = 0) : xm_C E (d + 5) false 12 [xm_r (0, 0, 0), xm_i x] (c, fi, fl, r) (.inr (E.2.2 c.1, 0), ((c.1 + 1, c.2 + 6), fi, fl, r)) := by
  have hn := sh_n hs
  suffices key : ∀ R : xm_O, ((.inr (E.2.2 c.1, 0), ((c.1 + 1, c.2 + 6), fi, fl, r)) : xm_O) = R → xm_G E (d + 4) false 12 0 [some (xm_r (0, 0, 0)), some (xm_i x)] [] (c, fi, fl, r) R from go_in (by decide) (Nat.le_of_ble_eq_true rfl) (fun _ _ => by omega) (key _ rfl)
  intro R hR
  refine pg_12_0 rfl ?_
  refine pg_12_1 rfl ?_
  refine pg_12_2 (sk0 hs) (Nat.le_of_ble_eq_true rfl) (ct_8 (x := x) hs) ?_
  refine pg_12_5 (fun hc => absurd g0 hc) (fun _ => ?_)
  exact go_eq hR.symm (pg_12_8 rfl hx)
theorem ct_13i0 {n : Nat} {E : xm_E} {c : Nat × Nat} {fi : FI} {fl : FL} {r : xm_I → Nat → Option xm_I} {d : Nat} {x : Int32} (hs : sh n E c r) (hx : 200 ≤ (E.1 (E.2.2 c.1)).1) (g0 : x < (1 : Int32)) : xm_C E (d + 7) false 13 [xm_r (0, 0, 0), xm_i x] (c, fi, fl, r) (.inr (E.2.2 c.1, 0), ((c.1 + 1, c.2 + 6), fi, fl, r)) := by
  have hn := sh_n hs
  suffices key : ∀ R : xm_O, ((.inr (E.2.2 c.1, 0), ((c.1 + 1, c.2 + 6), fi, fl, r)) : xm_O) = R → xm_G E (d + 6) false 13 0 [some (xm_r (0, 0, 0)), some (xm_i x), none] [] (c, fi, fl, r) R from go_in (by decide) (Nat.le_of_ble_eq_true rfl) (fun _ _ => by omega) (key _ rfl)
  intro R hR
  refine pg_13_0 rfl ?_
  refine pg_13_1 ?_
  refine pg_13_2 (fun _ => ?_) (fun hc => absurd g0 hc)
  exact go_eq hR.symm (pg_13_10 rfl hx)
theorem ct_13i1 {n : Nat} {E : xm_E} {c : Nat × Nat} {fi : FI} {fl : FL} {r : xm_I → Nat → Option xm_I} {d : Nat} {md : Bool} {x : Int32} (hs : sh n E c r) (g0 : ¬ x < (1 : Int32)) (g1 : x ≤ (4 : Int32)) (g2 : x ≤ (0 : Int32)) : xm_C E (d + 7) md 13 [xm_r (0, 0, 0), xm_i x] (c, fi, fl, r) (.inl (some (xm_i (fi (0, 0, 0) 4))), (c, fi, fl, r)) := by
  have hn := sh_n hs
  suffices key : ∀ R : xm_O, ((.inl (some (xm_i (fi (0, 0, 0) 4))), (c, fi, fl, r)) : xm_O) = R → xm_G E (d + 6) md 13 0 [some (xm_r (0, 0, 0)), some (xm_i x), none] [] (c, fi, fl, r) R from go_inr (by decide) (Nat.le_of_ble_eq_true rfl) (key _ rfl)
  intro R hR
  refine pg_13_0 rfl ?_
  refine pg_13_1 ?_
  refine pg_13_2 (fun hc => absurd hc g0) (fun _ => ?_)
  refine pg_13_5 rfl ?_
  refine pg_13_6 ?_
  refine pg_13_7 (fun _ => ?_) (fun hc => absurd g1 hc)
  refine pg_13_18 ?_
  refine pg_13_19 (lv' := [some (xm_r (0, 0, 0)), some (xm_i x), some (xm_i (0 : Int32))]) rfl ?_
  refine pg_13_20 rfl ?_
  refine pg_13_21 rfl ?_
  refine pg_13_22 (fun _ => ?_) (fun hc => absurd g2 hc)
  refine pg_13_35 rfl ?_
  refine pg_13_36 (sk0 hs) ?_
  exact go_eq hR.symm (pg_13_39)
theorem ct_13i2 {n : Nat} {E : xm_E} {c : Nat × Nat} {fi : FI} {fl : FL} {r : xm_I → Nat → Option xm_I} {d : Nat} {x : Int32} (hs : sh n E c r) (hx : 200 ≤ (E.1 (E.2.2 c.1)).1) (g0 : ¬ x < (1 : Int32)) (g1 : ¬ x ≤ (4 : Int32)) : xm_C E (d + 7) false 13 [xm_r (0, 0, 0), xm_i x] (c, fi, fl, r) (.inr (E.2.2 c.1, 0), ((c.1 + 1, c.2 + 6), fi, fl, r)) := by
  have hn := sh_n hs
  suffices key : ∀ R : xm_O, ((.inr (E.2.2 c.1, 0), ((c.1 + 1, c.2 + 6), fi, fl, r)) : xm_O) = R → xm_G E (d + 6) false 13 0 [some (xm_r (0, 0, 0)), some (xm_i x), none] [] (c, fi, fl, r) R from go_in (by decide) (Nat.le_of_ble_eq_true rfl) (fun _ _ => by omega) (key _ rfl)
  intro R hR
  refine pg_13_0 rfl ?_
  refine pg_13_1 ?_
  refine pg_13_2 (fun hc => absurd hc g0) (fun _ => ?_)
  refine pg_13_5 rfl ?_
  refine pg_13_6 ?_
  refine pg_13_7 (fun hc => absurd hc g1) (fun _ => ?_)
  exact go_eq hR.symm (pg_13_10 rfl hx)
theorem ct_25v0 {n : Nat} {E : xm_E} {c : Nat × Nat} {fi : FI} {fl : FL} {r : xm_I → Nat → Option xm_I} {d : Nat} {p : Nat} {o : Nat} (hs : sh n E c r) (hp : p < n) (ho : o < n) (hx : 200 ≤ (E.1 (E.2.2 c.1)).1) (g0 : (fi (7, p, 0) 10) = 0) : xm_C E (d + 5) false 25 [xm_r (0, 0, 0), xm_i (nI p), xm_i (nI o)] (c, fi, fl, r) (.inr (E.2.2 c.1, 1), ((c.1 + 1, c.2 + 6), fi, fl, r)) := by
  have hn := sh_n hs
  suffices key : ∀ R : xm_O, ((.inr (E.2.2 c.1, 1), ((c.1 + 1, c.2 + 6), fi, fl, r)) : xm_O) = R → xm_G E (d + 4) false 25 0 [some (xm_r (0, 0, 0)), some (xm_i (nI p)), some (xm_i (nI o))] [] (c, fi, fl, r) R from go_in (by decide) (Nat.le_of_ble_eq_true rfl) (fun _ _ => by omega) (key _ rfl)
  intro R hR
  refine pg_25_0 rfl ?_
  refine pg_25_1 rfl ?_
  refine pg_25_2 (sk0 hs) (Nat.le_of_ble_eq_true rfl) (ct_8 (x := (nI p)) hs) ?_
  refine pg_25_5 (fun hc => absurd hc (isn_ok (n := n) (p := p) (by omega) (by omega))) (fun _ => ?_)
  refine pg_25_8 rfl ?_
  refine pg_25_9 rfl ?_
  refine pg_25_10 (sk0 hs) (Nat.le_of_ble_eq_true rfl) (ct_8 (x := (nI o)) hs) ?_
  refine pg_25_13 (fun _ => ?_) (fun hc => absurd hc (isn_ok (n := n) (p := o) (by omega) (by omega)))
  refine pg_25_24 rfl ?_
  refine pg_25_25 (sk0 hs) (sr0_2 hs) ?_
  refine pg_25_28 rfl ?_
  refine pg_25_29 (sk6 hs) (by decide) (i := p) rfl (by omega) (by omega) (sr6 hs (i := p) (by omega)) ?_
  refine pg_25_30 (sk7 hs (i := p) (by omega)) ?_
  refine pg_25_33 (fun hc => absurd g0 hc) (fun _ => ?_)
  exact go_eq hR.symm (pg_25_36 rfl hx)
theorem ct_25v1 {n : Nat} {E : xm_E} {c : Nat × Nat} {fi : FI} {fl : FL} {r : xm_I → Nat → Option xm_I} {d : Nat} {p : Nat} {o : Nat} (hs : sh n E c r) (hp : p < n) (ho : o < n) (hx : 200 ≤ (E.1 (E.2.2 c.1)).1) (g0 : ¬ (fi (7, p, 0) 10) = 0) (g1 : (bI (sp_64 fi p 1 o)) = 0) : xm_C E (d + 5) false 25 [xm_r (0, 0, 0), xm_i (nI p), xm_i (nI o)] (c, fi, fl, r) (.inr (E.2.2 c.1, 2), ((c.1 + 1, c.2 + 6), fi, fl, r)) := by
  have hn := sh_n hs
  suffices key : ∀ R : xm_O, ((.inr (E.2.2 c.1, 2), ((c.1 + 1, c.2 + 6), fi, fl, r)) : xm_O) = R → xm_G E (d + 4) false 25 0 [some (xm_r (0, 0, 0)), some (xm_i (nI p)), some (xm_i (nI o))] [] (c, fi, fl, r) R from go_in (by decide) (Nat.le_of_ble_eq_true rfl) (fun _ _ => by omega) (key _ rfl)
  intro R hR
  refine pg_25_0 rfl ?_
  refine pg_25_1 rfl ?_
  refine pg_25_2 (sk0 hs) (Nat.le_of_ble_eq_true rfl) (ct_8 (x := (nI p)) hs) ?_
  refine pg_25_5 (fun hc => absurd hc (isn_ok (n := n) (p := p) (by omega) (by omega))) (fun _ => ?_)
  refine pg_25_8 rfl ?_
  refine pg_25_9 rfl ?_
  refine pg_25_10 (sk0 hs) (Nat.le_of_ble_eq_true rfl) (ct_8 (x := (nI o)) hs) ?_
  refine pg_25_13 (fun _ => ?_) (fun hc => absurd hc (isn_ok (n := n) (p := o) (by omega) (by omega)))
  refine pg_25_24 rfl ?_
  refine pg_25_25 (sk0 hs) (sr0_2 hs) ?_
  refine pg_25_28 rfl ?_
  refine pg_25_29 (sk6 hs) (by decide) (i := p) rfl (by omega) (by omega) (sr6 hs (i := p) (by omega)) ?_
  refine pg_25_30 (sk7 hs (i := p) (by omega)) ?_
  refine pg_25_33 (fun _ => ?_) (fun hc => absurd hc g0)
  refine pg_25_44 rfl ?_
  refine pg_25_45 (sk0 hs) (sr0_2 hs) ?_
  refine pg_25_48 rfl ?_
  refine pg_25_49 (sk6 hs) (by decide) (i := p) rfl (by omega) (by omega) (sr6 hs (i := p) (by omega)) ?_
  refine pg_25_50 (sk7 hs (i := p) (by omega)) (sr7_8 hs (i := p) (by omega)) ?_
  refine pg_25_53 rfl ?_
  refine pg_25_54 (sk9 hs (i := p) (k := 1) (by show _ ∨ _; omega)) (Nat.le_of_ble_eq_true rfl) (ct_64 (i := p) (k := 1) (p := o) hs (by show _ ∨ _; omega) (by omega)) ?_
  refine pg_25_57 (fun hc => absurd g1 hc) (fun _ => ?_)
  exact go_eq hR.symm (pg_25_60 rfl hx)
theorem ct_25v2 {n : Nat} {E : xm_E} {c : Nat × Nat} {fi : FI} {fl : FL} {r : xm_I → Nat → Option xm_I} {d : Nat} {md : Bool} {p : Nat} {o : Nat} (hs : sh n E c r) (hp : p < n) (ho : o < n) (g0 : ¬ (fi (7, p, 0) 10) = 0) (g1 : ¬ (bI (sp_64 fi p 1 o)) = 0) : xm_C E (d + 2) md 25 [xm_r (0, 0, 0), xm_i (nI p), xm_i (nI o)] (c, fi, fl, r) (.inl (some (xm_i (sp_65 fi p 1 o))), (c, fi, fl, r)) := by
  have hn := sh_n hs
  suffices key : ∀ R : xm_O, ((.inl (some (xm_i (sp_65 fi p 1 o))), (c, fi, fl, r)) : xm_O) = R → xm_G E (d + 1) md 25 0 [some (xm_r (0, 0, 0)), some (xm_i (nI p)), some (xm_i (nI o))] [] (c, fi, fl, r) R from go_inr (by decide) (Nat.le_of_ble_eq_true rfl) (key _ rfl)
  intro R hR
  refine pg_25_0 rfl ?_
  refine pg_25_1 rfl ?_
  refine pg_25_2 (sk0 hs) (Nat.le_of_ble_eq_true rfl) (ct_8 (x := (nI p)) hs) ?_
  refine pg_25_5 (fun hc => absurd hc (isn_ok (n := n) (p := p) (by omega) (by omega))) (fun _ => ?_)
  refine pg_25_8 rfl ?_
  refine pg_25_9 rfl ?_
  refine pg_25_10 (sk0 hs) (Nat.le_of_ble_eq_true rfl) (ct_8 (x := (nI o)) hs) ?_
  refine pg_25_13 (fun _ => ?_) (fun hc => absurd hc (isn_ok (n := n) (p := o) (by omega) (by omega)))
  refine pg_25_24 rfl ?_
  refine pg_25_25 (sk0 hs) (sr0_2 hs) ?_
  refine pg_25_28 rfl ?_
  refine pg_25_29 (sk6 hs) (by decide) (i := p) rfl (by omega) (by omega) (sr6 hs (i := p) (by omega)) ?_
  refine pg_25_30 (sk7 hs (i := p) (by omega)) ?_
  refine pg_25_33 (fun _ => ?_) (fun hc => absurd hc g0)
  refine pg_25_44 rfl ?_
  refine pg_25_45 (sk0 hs) (sr0_2 hs) ?_
  refine pg_25_48 rfl ?_
  refine pg_25_49 (sk6 hs) (by decide) (i := p) rfl (by omega) (by omega) (sr6 hs (i := p) (by omega)) ?_
  refine pg_25_50 (sk7 hs (i := p) (by omega)) (sr7_8 hs (i := p) (by omega)) ?_
  refine pg_25_53 rfl ?_
  refine pg_25_54 (sk9 hs (i := p) (k := 1) (by show _ ∨ _; omega)) (Nat.le_of_ble_eq_true rfl) (ct_64 (i := p) (k := 1) (p := o) hs (by show _ ∨ _; omega) (by omega)) ?_
  refine pg_25_57 (fun _ => ?_) (fun hc => absurd hc g1)
  refine pg_25_68 rfl ?_
  refine pg_25_69 (sk0 hs) (sr0_2 hs) ?_
  refine pg_25_72 rfl ?_
  refine pg_25_73 (sk6 hs) (by decide) (i := p) rfl (by omega) (by omega) (sr6 hs (i := p) (by omega)) ?_
  refine pg_25_74 (sk7 hs (i := p) (by omega)) (sr7_8 hs (i := p) (by omega)) ?_
  refine pg_25_77 rfl ?_
  refine pg_25_78 (sk9 hs (i := p) (k := 1) (by show _ ∨ _; omega)) (Nat.le_of_ble_eq_true rfl) (ct_65 (i := p) (k := 1) (p := o) hs (by show _ ∨ _; omega) (by omega)) ?_
  exact go_eq hR.symm (pg_25_81)
theorem ct_25j0 {n : Nat} {E : xm_E} {c : Nat × Nat} {fi : FI} {fl : FL} {r : xm_I → Nat → Option xm_I} {d : Nat} {p : Nat} {y : Int32} (hs : sh n E c r) (hp : p < n) (hx : 200 ≤ (E.1 (E.2.2 c.1)).1) (g0 : (bI (sp_8 n y)) = 0) : xm_C E (d + 5) false 25 [xm_r (0, 0, 0), xm_i (nI p), xm_i y] (c, fi, fl, r) (.inr (E.2.2 c.1, 0), ((c.1 + 1, c.2 + 6), fi, fl, r)) := by
  have hn := sh_n hs
  suffices key : ∀ R : xm_O, ((.inr (E.2.2 c.1, 0), ((c.1 + 1, c.2 + 6), fi, fl, r)) : xm_O) = R → xm_G E (d + 4) false 25 0 [some (xm_r (0, 0, 0)), some (xm_i (nI p)), some (xm_i y)] [] (c, fi, fl, r) R from go_in (by decide) (Nat.le_of_ble_eq_true rfl) (fun _ _ => by omega) (key _ rfl)
  intro R hR
  refine pg_25_0 rfl ?_
  refine pg_25_1 rfl ?_
  refine pg_25_2 (sk0 hs) (Nat.le_of_ble_eq_true rfl) (ct_8 (x := (nI p)) hs) ?_
  refine pg_25_5 (fun hc => absurd hc (isn_ok (n := n) (p := p) (by omega) (by omega))) (fun _ => ?_)
  refine pg_25_8 rfl ?_
  refine pg_25_9 rfl ?_
  refine pg_25_10 (sk0 hs) (Nat.le_of_ble_eq_true rfl) (ct_8 (x := y) hs) ?_
  refine pg_25_13 (fun hc => absurd g0 hc) (fun _ => ?_)
  exact go_eq hR.symm (pg_25_16 rfl hx)
theorem ct_25j1 {n : Nat} {E : xm_E} {c : Nat × Nat} {fi : FI} {fl : FL} {r : xm_I → Nat → Option xm_I} {d : Nat} {p : Nat} {y : Int32} (hs : sh n E c r) (hp : p < n) (hx : 200 ≤ (E.1 (E.2.2 c.1)).1) (g0 : ¬ (bI (sp_8 n y)) = 0) (g1 : (fi (7, p, 0) 10) = 0) : xm_C E (d + 5) false 25 [xm_r (0, 0, 0), xm_i (nI p), xm_i y] (c, fi, fl, r) (.inr (E.2.2 c.1, 1), ((c.1 + 1, c.2 + 6), fi, fl, r)) := by
  have hn := sh_n hs
  suffices key : ∀ R : xm_O, ((.inr (E.2.2 c.1, 1), ((c.1 + 1, c.2 + 6), fi, fl, r)) : xm_O) = R → xm_G E (d + 4) false 25 0 [some (xm_r (0, 0, 0)), some (xm_i (nI p)), some (xm_i y)] [] (c, fi, fl, r) R from go_in (by decide) (Nat.le_of_ble_eq_true rfl) (fun _ _ => by omega) (key _ rfl)
  intro R hR
  refine pg_25_0 rfl ?_
  refine pg_25_1 rfl ?_
  refine pg_25_2 (sk0 hs) (Nat.le_of_ble_eq_true rfl) (ct_8 (x := (nI p)) hs) ?_
  refine pg_25_5 (fun hc => absurd hc (isn_ok (n := n) (p := p) (by omega) (by omega))) (fun _ => ?_)
  refine pg_25_8 rfl ?_
  refine pg_25_9 rfl ?_
  refine pg_25_10 (sk0 hs) (Nat.le_of_ble_eq_true rfl) (ct_8 (x := y) hs) ?_
  refine pg_25_13 (fun _ => ?_) (fun hc => absurd hc g0)
  refine pg_25_24 rfl ?_
  refine pg_25_25 (sk0 hs) (sr0_2 hs) ?_
  refine pg_25_28 rfl ?_
  refine pg_25_29 (sk6 hs) (by decide) (i := p) rfl (by omega) (by omega) (sr6 hs (i := p) (by omega)) ?_
  refine pg_25_30 (sk7 hs (i := p) (by omega)) ?_
  refine pg_25_33 (fun hc => absurd g1 hc) (fun _ => ?_)
  exact go_eq hR.symm (pg_25_36 rfl hx)
theorem ct_25i0 {n : Nat} {E : xm_E} {c : Nat × Nat} {fi : FI} {fl : FL} {r : xm_I → Nat → Option xm_I} {d : Nat} {x : Int32} {y : Int32} (hs : sh n E c r) (hx : 200 ≤ (E.1 (E.2.2 c.1)).1) (g0 : (bI (sp_8 n x)) = 0) : xm_C E (d + 5) false 25 [xm_r (0, 0, 0), xm_i x, xm_i y] (c, fi, fl, r) (.inr (E.2.2 c.1, 0), ((c.1 + 1, c.2 + 6), fi, fl, r)) := by
  have hn := sh_n hs
  suffices key : ∀ R : xm_O, ((.inr (E.2.2 c.1, 0), ((c.1 + 1, c.2 + 6), fi, fl, r)) : xm_O) = R → xm_G E (d + 4) false 25 0 [some (xm_r (0, 0, 0)), some (xm_i x), some (xm_i y)] [] (c, fi, fl, r) R from go_in (by decide) (Nat.le_of_ble_eq_true rfl) (fun _ _ => by omega) (key _ rfl)
  intro R hR
  refine pg_25_0 rfl ?_
  refine pg_25_1 rfl ?_
  refine pg_25_2 (sk0 hs) (Nat.le_of_ble_eq_true rfl) (ct_8 (x := x) hs) ?_
  refine pg_25_5 (fun _ => ?_) (fun hc => absurd g0 hc)
  exact go_eq hR.symm (pg_25_16 rfl hx)
theorem ct_25i1 {n : Nat} {E : xm_E} {c : Nat × Nat} {fi : FI} {fl : FL} {r : xm_I → Nat → Option xm_I} {d : Nat} {x : Int32} {y : Int32} (hs : sh n E c r) (hx : 200 ≤ (E.1 (E.2.2 c.1)).1) (g0 : ¬ (bI (sp_8 n x)) = 0) (g1 : (bI (sp_8 n y)) = 0) : xm_C E (d + 5) false 25 [xm_r (0, 0, 0), xm_i x, xm_i y] (c, fi, fl, r) (.inr (E.2.2 c.1, 0), ((c.1 + 1, c.2 + 6), fi, fl, r)) := by
  have hn := sh_n hs
  suffices key : ∀ R : xm_O, ((.inr (E.2.2 c.1, 0), ((c.1 + 1, c.2 + 6), fi, fl, r)) : xm_O) = R → xm_G E (d + 4) false 25 0 [some (xm_r (0, 0, 0)), some (xm_i x), some (xm_i y)] [] (c, fi, fl, r) R from go_in (by decide) (Nat.le_of_ble_eq_true rfl) (fun _ _ => by omega) (key _ rfl)
  intro R hR
  refine pg_25_0 rfl ?_
  refine pg_25_1 rfl ?_
  refine pg_25_2 (sk0 hs) (Nat.le_of_ble_eq_true rfl) (ct_8 (x := x) hs) ?_
  refine pg_25_5 (fun hc => absurd hc g0) (fun _ => ?_)
  refine pg_25_8 rfl ?_
  refine pg_25_9 rfl ?_
  refine pg_25_10 (sk0 hs) (Nat.le_of_ble_eq_true rfl) (ct_8 (x := y) hs) ?_
  refine pg_25_13 (fun hc => absurd g1 hc) (fun _ => ?_)
  exact go_eq hR.symm (pg_25_16 rfl hx)
theorem ct_26v0 {n : Nat} {E : xm_E} {c : Nat × Nat} {fi : FI} {fl : FL} {r : xm_I → Nat → Option xm_I} {d : Nat} {md : Bool} {p : Nat} (hs : sh n E c r) (hp : p < n) (hl : fi (7, p, 0) 3 = 0 ∨ fi (7, p, 0) 3 = 1) : xm_C E (d + 2) md 26 [xm_r (0, 0, 0), xm_i (nI p)] (c, fi, fl, r) (.inl (some (xm_i (fi (7, p, 0) 3))), (c, fi, fl, r)) := by
  have hn := sh_n hs
  suffices key : ∀ R : xm_O, ((.inl (some (xm_i (fi (7, p, 0) 3))), (c, fi, fl, r)) : xm_O) = R → xm_G E (d + 1) md 26 0 [some (xm_r (0, 0, 0)), some (xm_i (nI p))] [] (c, fi, fl, r) R from go_inr (by decide) (Nat.le_of_ble_eq_true rfl) (key _ rfl)
  intro R hR
  refine pg_26_0 rfl ?_
  refine pg_26_1 rfl ?_
  refine pg_26_2 (sk0 hs) (Nat.le_of_ble_eq_true rfl) (ct_8 (x := (nI p)) hs) ?_
  refine pg_26_5 (fun _ => ?_) (fun hc => absurd hc (isn_ok (n := n) (p := p) (by omega) (by omega)))
  refine pg_26_16 rfl ?_
  refine pg_26_17 (sk0 hs) (sr0_2 hs) ?_
  refine pg_26_20 rfl ?_
  refine pg_26_21 (sk6 hs) (by decide) (i := p) rfl (by omega) (by omega) (sr6 hs (i := p) (by omega)) ?_
  refine pg_26_22 (sk7 hs (i := p) (by omega)) ?_
  exact go_eq hR.symm (pg_26_25 hl)
theorem ct_26i0 {n : Nat} {E : xm_E} {c : Nat × Nat} {fi : FI} {fl : FL} {r : xm_I → Nat → Option xm_I} {d : Nat} {x : Int32} (hs : sh n E c r) (hx : 200 ≤ (E.1 (E.2.2 c.1)).1) (g0 : (bI (sp_8 n x)) = 0) : xm_C E (d + 5) false 26 [xm_r (0, 0, 0), xm_i x] (c, fi, fl, r) (.inr (E.2.2 c.1, 0), ((c.1 + 1, c.2 + 6), fi, fl, r)) := by
  have hn := sh_n hs
  suffices key : ∀ R : xm_O, ((.inr (E.2.2 c.1, 0), ((c.1 + 1, c.2 + 6), fi, fl, r)) : xm_O) = R → xm_G E (d + 4) false 26 0 [some (xm_r (0, 0, 0)), some (xm_i x)] [] (c, fi, fl, r) R from go_in (by decide) (Nat.le_of_ble_eq_true rfl) (fun _ _ => by omega) (key _ rfl)
  intro R hR
  refine pg_26_0 rfl ?_
  refine pg_26_1 rfl ?_
  refine pg_26_2 (sk0 hs) (Nat.le_of_ble_eq_true rfl) (ct_8 (x := x) hs) ?_
  refine pg_26_5 (fun hc => absurd g0 hc) (fun _ => ?_)
  exact go_eq hR.symm (pg_26_8 rfl hx)
theorem ct_27v0 {n : Nat} {E : xm_E} {c : Nat × Nat} {fi : FI} {fl : FL} {r : xm_I → Nat → Option xm_I} {d : Nat} {md : Bool} {p : Nat} {o : Nat} (hs : sh n E c r) (hp : p < n) (ho : o < n) (g0 : (fi (7, p, 0) 3) = 0) : xm_C E (d + 2) md 27 [xm_r (0, 0, 0), xm_i (nI p), xm_i (nI o)] (c, fi, fl, r) (.inl (some (xm_i (bI (sp_50 fi p o)))), (c, fi, fl, r)) := by
  have hn := sh_n hs
  suffices key : ∀ R : xm_O, ((.inl (some (xm_i (bI (sp_50 fi p o)))), (c, fi, fl, r)) : xm_O) = R → xm_G E (d + 1) md 27 0 [some (xm_r (0, 0, 0)), some (xm_i (nI p)), some (xm_i (nI o))] [] (c, fi, fl, r) R from go_inr (by decide) (Nat.le_of_ble_eq_true rfl) (key _ rfl)
  intro R hR
  refine pg_27_0 rfl ?_
  refine pg_27_1 rfl ?_
  refine pg_27_2 (sk0 hs) (Nat.le_of_ble_eq_true rfl) (ct_8 (x := (nI p)) hs) ?_
  refine pg_27_5 (fun hc => absurd hc (isn_ok (n := n) (p := p) (by omega) (by omega))) (fun _ => ?_)
  refine pg_27_8 rfl ?_
  refine pg_27_9 rfl ?_
  refine pg_27_10 (sk0 hs) (Nat.le_of_ble_eq_true rfl) (ct_8 (x := (nI o)) hs) ?_
  refine pg_27_13 (fun _ => ?_) (fun hc => absurd hc (isn_ok (n := n) (p := o) (by omega) (by omega)))
  refine pg_27_24 rfl ?_
  refine pg_27_25 (sk0 hs) (sr0_2 hs) ?_
  refine pg_27_28 rfl ?_
  refine pg_27_29 (sk6 hs) (by decide) (i := p) rfl (by omega) (by omega) (sr6 hs (i := p) (by omega)) ?_
  refine pg_27_30 (sk7 hs (i := p) (by omega)) ?_
  refine pg_27_33 (fun _ => ?_) (fun hc => absurd g0 hc)
  refine pg_27_44 rfl ?_
  refine pg_27_45 (sk0 hs) (sr0_2 hs) ?_
  refine pg_27_48 rfl ?_
  refine pg_27_49 (sk6 hs) (by decide) (i := p) rfl (by omega) (by omega) (sr6 hs (i := p) (by omega)) ?_
  refine pg_27_50 rfl ?_
  refine pg_27_51 (sk7 hs (i := p) (by omega)) (Nat.le_of_ble_eq_true rfl) (ct_50 (a := p) (i := o) hs (by omega)) ?_
  exact go_eq hR.symm (pg_27_54 (bI_01 _))
theorem ct_27v1 {n : Nat} {E : xm_E} {c : Nat × Nat} {fi : FI} {fl : FL} {r : xm_I → Nat → Option xm_I} {d : Nat} {p : Nat} {o : Nat} (hs : sh n E c r) (hp : p < n) (ho : o < n) (hx : 200 ≤ (E.1 (E.2.2 c.1)).1) (g0 : ¬ (fi (7, p, 0) 3) = 0) : xm_C E (d + 5) false 27 [xm_r (0, 0, 0), xm_i (nI p), xm_i (nI o)] (c, fi, fl, r) (.inr (E.2.2 c.1, 1), ((c.1 + 1, c.2 + 6), fi, fl, r)) := by
  have hn := sh_n hs
  suffices key : ∀ R : xm_O, ((.inr (E.2.2 c.1, 1), ((c.1 + 1, c.2 + 6), fi, fl, r)) : xm_O) = R → xm_G E (d + 4) false 27 0 [some (xm_r (0, 0, 0)), some (xm_i (nI p)), some (xm_i (nI o))] [] (c, fi, fl, r) R from go_in (by decide) (Nat.le_of_ble_eq_true rfl) (fun _ _ => by omega) (key _ rfl)
  intro R hR
  refine pg_27_0 rfl ?_
  refine pg_27_1 rfl ?_
  refine pg_27_2 (sk0 hs) (Nat.le_of_ble_eq_true rfl) (ct_8 (x := (nI p)) hs) ?_
  refine pg_27_5 (fun hc => absurd hc (isn_ok (n := n) (p := p) (by omega) (by omega))) (fun _ => ?_)
  refine pg_27_8 rfl ?_
  refine pg_27_9 rfl ?_
  refine pg_27_10 (sk0 hs) (Nat.le_of_ble_eq_true rfl) (ct_8 (x := (nI o)) hs) ?_
  refine pg_27_13 (fun _ => ?_) (fun hc => absurd hc (isn_ok (n := n) (p := o) (by omega) (by omega)))
  refine pg_27_24 rfl ?_
  refine pg_27_25 (sk0 hs) (sr0_2 hs) ?_
  refine pg_27_28 rfl ?_
  refine pg_27_29 (sk6 hs) (by decide) (i := p) rfl (by omega) (by omega) (sr6 hs (i := p) (by omega)) ?_
  refine pg_27_30 (sk7 hs (i := p) (by omega)) ?_
  refine pg_27_33 (fun hc => absurd hc g0) (fun _ => ?_)
  exact go_eq hR.symm (pg_27_36 rfl hx)
theorem ct_27j0 {n : Nat} {E : xm_E} {c : Nat × Nat} {fi : FI} {fl : FL} {r : xm_I → Nat → Option xm_I} {d : Nat} {p : Nat} {y : Int32} (hs : sh n E c r) (hp : p < n) (hx : 200 ≤ (E.1 (E.2.2 c.1)).1) (g0 : (bI (sp_8 n y)) = 0) : xm_C E (d + 5) false 27 [xm_r (0, 0, 0), xm_i (nI p), xm_i y] (c, fi, fl, r) (.inr (E.2.2 c.1, 0), ((c.1 + 1, c.2 + 6), fi, fl, r)) := by
  have hn := sh_n hs
  suffices key : ∀ R : xm_O, ((.inr (E.2.2 c.1, 0), ((c.1 + 1, c.2 + 6), fi, fl, r)) : xm_O) = R → xm_G E (d + 4) false 27 0 [some (xm_r (0, 0, 0)), some (xm_i (nI p)), some (xm_i y)] [] (c, fi, fl, r) R from go_in (by decide) (Nat.le_of_ble_eq_true rfl) (fun _ _ => by omega) (key _ rfl)
  intro R hR
  refine pg_27_0 rfl ?_
  refine pg_27_1 rfl ?_
  refine pg_27_2 (sk0 hs) (Nat.le_of_ble_eq_true rfl) (ct_8 (x := (nI p)) hs) ?_
  refine pg_27_5 (fun hc => absurd hc (isn_ok (n := n) (p := p) (by omega) (by omega))) (fun _ => ?_)
  refine pg_27_8 rfl ?_
  refine pg_27_9 rfl ?_
  refine pg_27_10 (sk0 hs) (Nat.le_of_ble_eq_true rfl) (ct_8 (x := y) hs) ?_
  refine pg_27_13 (fun hc => absurd g0 hc) (fun _ => ?_)
  exact go_eq hR.symm (pg_27_16 rfl hx)
theorem ct_27j1 {n : Nat} {E : xm_E} {c : Nat × Nat} {fi : FI} {fl : FL} {r : xm_I → Nat → Option xm_I} {d : Nat} {p : Nat} {y : Int32} (hs : sh n E c r) (hp : p < n) (hx : 200 ≤ (E.1 (E.2.2 c.1)).1) (g0 : ¬ (bI (sp_8 n y)) = 0) (g1 : ¬ (fi (7, p, 0) 3) = 0) : xm_C E (d + 5) false 27 [xm_r (0, 0, 0), xm_i (nI p), xm_i y] (c, fi, fl, r) (.inr (E.2.2 c.1, 1), ((c.1 + 1, c.2 + 6), fi, fl, r)) := by
  have hn := sh_n hs
  suffices key : ∀ R : xm_O, ((.inr (E.2.2 c.1, 1), ((c.1 + 1, c.2 + 6), fi, fl, r)) : xm_O) = R → xm_G E (d + 4) false 27 0 [some (xm_r (0, 0, 0)), some (xm_i (nI p)), some (xm_i y)] [] (c, fi, fl, r) R from go_in (by decide) (Nat.le_of_ble_eq_true rfl) (fun _ _ => by omega) (key _ rfl)
  intro R hR
  refine pg_27_0 rfl ?_
  refine pg_27_1 rfl ?_
  refine pg_27_2 (sk0 hs) (Nat.le_of_ble_eq_true rfl) (ct_8 (x := (nI p)) hs) ?_
  refine pg_27_5 (fun hc => absurd hc (isn_ok (n := n) (p := p) (by omega) (by omega))) (fun _ => ?_)
  refine pg_27_8 rfl ?_
  refine pg_27_9 rfl ?_
  refine pg_27_10 (sk0 hs) (Nat.le_of_ble_eq_true rfl) (ct_8 (x := y) hs) ?_
  refine pg_27_13 (fun _ => ?_) (fun hc => absurd hc g0)
  refine pg_27_24 rfl ?_
  refine pg_27_25 (sk0 hs) (sr0_2 hs) ?_
  refine pg_27_28 rfl ?_
  refine pg_27_29 (sk6 hs) (by decide) (i := p) rfl (by omega) (by omega) (sr6 hs (i := p) (by omega)) ?_
  refine pg_27_30 (sk7 hs (i := p) (by omega)) ?_
  refine pg_27_33 (fun hc => absurd hc g1) (fun _ => ?_)
  exact go_eq hR.symm (pg_27_36 rfl hx)
theorem ct_27i0 {n : Nat} {E : xm_E} {c : Nat × Nat} {fi : FI} {fl : FL} {r : xm_I → Nat → Option xm_I} {d : Nat} {x : Int32} {y : Int32} (hs : sh n E c r) (hx : 200 ≤ (E.1 (E.2.2 c.1)).1) (g0 : (bI (sp_8 n x)) = 0) : xm_C E (d + 5) false 27 [xm_r (0, 0, 0), xm_i x, xm_i y] (c, fi, fl, r) (.inr (E.2.2 c.1, 0), ((c.1 + 1, c.2 + 6), fi, fl, r)) := by
  have hn := sh_n hs
  suffices key : ∀ R : xm_O, ((.inr (E.2.2 c.1, 0), ((c.1 + 1, c.2 + 6), fi, fl, r)) : xm_O) = R → xm_G E (d + 4) false 27 0 [some (xm_r (0, 0, 0)), some (xm_i x), some (xm_i y)] [] (c, fi, fl, r) R from go_in (by decide) (Nat.le_of_ble_eq_true rfl) (fun _ _ => by omega) (key _ rfl)
  intro R hR
  refine pg_27_0 rfl ?_
  refine pg_27_1 rfl ?_
  refine pg_27_2 (sk0 hs) (Nat.le_of_ble_eq_true rfl) (ct_8 (x := x) hs) ?_
  refine pg_27_5 (fun _ => ?_) (fun hc => absurd g0 hc)
  exact go_eq hR.symm (pg_27_16 rfl hx)
theorem ct_27i1 {n : Nat} {E : xm_E} {c : Nat × Nat} {fi : FI} {fl : FL} {r : xm_I → Nat → Option xm_I} {d : Nat} {x : Int32} {y : Int32} (hs : sh n E c r) (hx : 200 ≤ (E.1 (E.2.2 c.1)).1) (g0 : ¬ (bI (sp_8 n x)) = 0) (g1 : (bI (sp_8 n y)) = 0) : xm_C E (d + 5) false 27 [xm_r (0, 0, 0), xm_i x, xm_i y] (c, fi, fl, r) (.inr (E.2.2 c.1, 0), ((c.1 + 1, c.2 + 6), fi, fl, r)) := by
  have hn := sh_n hs
  suffices key : ∀ R : xm_O, ((.inr (E.2.2 c.1, 0), ((c.1 + 1, c.2 + 6), fi, fl, r)) : xm_O) = R → xm_G E (d + 4) false 27 0 [some (xm_r (0, 0, 0)), some (xm_i x), some (xm_i y)] [] (c, fi, fl, r) R from go_in (by decide) (Nat.le_of_ble_eq_true rfl) (fun _ _ => by omega) (key _ rfl)
  intro R hR
  refine pg_27_0 rfl ?_
  refine pg_27_1 rfl ?_
  refine pg_27_2 (sk0 hs) (Nat.le_of_ble_eq_true rfl) (ct_8 (x := x) hs) ?_
  refine pg_27_5 (fun hc => absurd hc g0) (fun _ => ?_)
  refine pg_27_8 rfl ?_
  refine pg_27_9 rfl ?_
  refine pg_27_10 (sk0 hs) (Nat.le_of_ble_eq_true rfl) (ct_8 (x := y) hs) ?_
  refine pg_27_13 (fun hc => absurd g1 hc) (fun _ => ?_)
  exact go_eq hR.symm (pg_27_16 rfl hx)
theorem ct_28v0 {n : Nat} {E : xm_E} {c : Nat × Nat} {fi : FI} {fl : FL} {r : xm_I → Nat → Option xm_I} {d : Nat} {md : Bool} {p : Nat} {o : Nat} (hs : sh n E c r) (hp : p < n) (ho : o < n) (g0 : (fi (7, p, 0) 3) = 0) : xm_C E (d + 2) md 28 [xm_r (0, 0, 0), xm_i (nI p), xm_i (nI o)] (c, fi, fl, r) (.inl (some (xm_i (sp_54 fi p o))), (c, fi, fl, r)) := by
  have hn := sh_n hs
  suffices key : ∀ R : xm_O, ((.inl (some (xm_i (sp_54 fi p o))), (c, fi, fl, r)) : xm_O) = R → xm_G E (d + 1) md 28 0 [some (xm_r (0, 0, 0)), some (xm_i (nI p)), some (xm_i (nI o))] [] (c, fi, fl, r) R from go_inr (by decide) (Nat.le_of_ble_eq_true rfl) (key _ rfl)
  intro R hR
  refine pg_28_0 rfl ?_
  refine pg_28_1 rfl ?_
  refine pg_28_2 (sk0 hs) (Nat.le_of_ble_eq_true rfl) (ct_8 (x := (nI p)) hs) ?_
  refine pg_28_5 (fun hc => absurd hc (isn_ok (n := n) (p := p) (by omega) (by omega))) (fun _ => ?_)
  refine pg_28_8 rfl ?_
  refine pg_28_9 rfl ?_
  refine pg_28_10 (sk0 hs) (Nat.le_of_ble_eq_true rfl) (ct_8 (x := (nI o)) hs) ?_
  refine pg_28_13 (fun _ => ?_) (fun hc => absurd hc (isn_ok (n := n) (p := o) (by omega) (by omega)))
  refine pg_28_24 rfl ?_
  refine pg_28_25 (sk0 hs) (sr0_2 hs) ?_
  refine pg_28_28 rfl ?_
  refine pg_28_29 (sk6 hs) (by decide) (i := p) rfl (by omega) (by omega) (sr6 hs (i := p) (by omega)) ?_
  refine pg_28_30 (sk7 hs (i := p) (by omega)) ?_
  refine pg_28_33 (fun _ => ?_) (fun hc => absurd g0 hc)
  refine pg_28_44 rfl ?_
  refine pg_28_45 (sk0 hs) (sr0_2 hs) ?_
  refine pg_28_48 rfl ?_
  refine pg_28_49 (sk6 hs) (by decide) (i := p) rfl (by omega) (by omega) (sr6 hs (i := p) (by omega)) ?_
  refine pg_28_50 rfl ?_
  refine pg_28_51 (sk7 hs (i := p) (by omega)) (Nat.le_of_ble_eq_true rfl) (ct_54 (a := p) (i := o) hs (by omega)) ?_
  exact go_eq hR.symm (pg_28_54)
theorem ct_28v1 {n : Nat} {E : xm_E} {c : Nat × Nat} {fi : FI} {fl : FL} {r : xm_I → Nat → Option xm_I} {d : Nat} {p : Nat} {o : Nat} (hs : sh n E c r) (hp : p < n) (ho : o < n) (hx : 200 ≤ (E.1 (E.2.2 c.1)).1) (g0 : ¬ (fi (7, p, 0) 3) = 0) : xm_C E (d + 5) false 28 [xm_r (0, 0, 0), xm_i (nI p), xm_i (nI o)] (c, fi, fl, r) (.inr (E.2.2 c.1, 1), ((c.1 + 1, c.2 + 6), fi, fl, r)) := by
  have hn := sh_n hs
  suffices key : ∀ R : xm_O, ((.inr (E.2.2 c.1, 1), ((c.1 + 1, c.2 + 6), fi, fl, r)) : xm_O) = R → xm_G E (d + 4) false 28 0 [some (xm_r (0, 0, 0)), some (xm_i (nI p)), some (xm_i (nI o))] [] (c, fi, fl, r) R from go_in (by decide) (Nat.le_of_ble_eq_true rfl) (fun _ _ => by omega) (key _ rfl)
  intro R hR
  refine pg_28_0 rfl ?_
  refine pg_28_1 rfl ?_
  refine pg_28_2 (sk0 hs) (Nat.le_of_ble_eq_true rfl) (ct_8 (x := (nI p)) hs) ?_
  refine pg_28_5 (fun hc => absurd hc (isn_ok (n := n) (p := p) (by omega) (by omega))) (fun _ => ?_)
  refine pg_28_8 rfl ?_
  refine pg_28_9 rfl ?_
  refine pg_28_10 (sk0 hs) (Nat.le_of_ble_eq_true rfl) (ct_8 (x := (nI o)) hs) ?_
  refine pg_28_13 (fun _ => ?_) (fun hc => absurd hc (isn_ok (n := n) (p := o) (by omega) (by omega)))
  refine pg_28_24 rfl ?_
  refine pg_28_25 (sk0 hs) (sr0_2 hs) ?_
  refine pg_28_28 rfl ?_
  refine pg_28_29 (sk6 hs) (by decide) (i := p) rfl (by omega) (by omega) (sr6 hs (i := p) (by omega)) ?_
  refine pg_28_30 (sk7 hs (i := p) (by omega)) ?_
  refine pg_28_33 (fun hc => absurd hc g0) (fun _ => ?_)
  exact go_eq hR.symm (pg_28_36 rfl hx)
theorem ct_28j0 {n : Nat} {E : xm_E} {c : Nat × Nat} {fi : FI} {fl : FL} {r : xm_I → Nat → Option xm_I} {d : Nat} {p : Nat} {y : Int32} (hs : sh n E c r) (hp : p < n) (hx : 200 ≤ (E.1 (E.2.2 c.1)).1) (g0 : (bI (sp_8 n y)) = 0) : xm_C E (d + 5) false 28 [xm_r (0, 0, 0), xm_i (nI p), xm_i y] (c, fi, fl, r) (.inr (E.2.2 c.1, 0), ((c.1 + 1, c.2 + 6), fi, fl, r)) := by
  have hn := sh_n hs
  suffices key : ∀ R : xm_O, ((.inr (E.2.2 c.1, 0), ((c.1 + 1, c.2 + 6), fi, fl, r)) : xm_O) = R → xm_G E (d + 4) false 28 0 [some (xm_r (0, 0, 0)), some (xm_i (nI p)), some (xm_i y)] [] (c, fi, fl, r) R from go_in (by decide) (Nat.le_of_ble_eq_true rfl) (fun _ _ => by omega) (key _ rfl)
  intro R hR
  refine pg_28_0 rfl ?_
  refine pg_28_1 rfl ?_
  refine pg_28_2 (sk0 hs) (Nat.le_of_ble_eq_true rfl) (ct_8 (x := (nI p)) hs) ?_
  refine pg_28_5 (fun hc => absurd hc (isn_ok (n := n) (p := p) (by omega) (by omega))) (fun _ => ?_)
  refine pg_28_8 rfl ?_
  refine pg_28_9 rfl ?_
  refine pg_28_10 (sk0 hs) (Nat.le_of_ble_eq_true rfl) (ct_8 (x := y) hs) ?_
  refine pg_28_13 (fun hc => absurd g0 hc) (fun _ => ?_)
  exact go_eq hR.symm (pg_28_16 rfl hx)
theorem ct_28j1 {n : Nat} {E : xm_E} {c : Nat × Nat} {fi : FI} {fl : FL} {r : xm_I → Nat → Option xm_I} {d : Nat} {p : Nat} {y : Int32} (hs : sh n E c r) (hp : p < n) (hx : 200 ≤ (E.1 (E.2.2 c.1)).1) (g0 : ¬ (bI (sp_8 n y)) = 0) (g1 : ¬ (fi (7, p, 0) 3) = 0) : xm_C E (d + 5) false 28 [xm_r (0, 0, 0), xm_i (nI p), xm_i y] (c, fi, fl, r) (.inr (E.2.2 c.1, 1), ((c.1 + 1, c.2 + 6), fi, fl, r)) := by
  have hn := sh_n hs
  suffices key : ∀ R : xm_O, ((.inr (E.2.2 c.1, 1), ((c.1 + 1, c.2 + 6), fi, fl, r)) : xm_O) = R → xm_G E (d + 4) false 28 0 [some (xm_r (0, 0, 0)), some (xm_i (nI p)), some (xm_i y)] [] (c, fi, fl, r) R from go_in (by decide) (Nat.le_of_ble_eq_true rfl) (fun _ _ => by omega) (key _ rfl)
  intro R hR
  refine pg_28_0 rfl ?_
  refine pg_28_1 rfl ?_
  refine pg_28_2 (sk0 hs) (Nat.le_of_ble_eq_true rfl) (ct_8 (x := (nI p)) hs) ?_
  refine pg_28_5 (fun hc => absurd hc (isn_ok (n := n) (p := p) (by omega) (by omega))) (fun _ => ?_)
  refine pg_28_8 rfl ?_
  refine pg_28_9 rfl ?_
  refine pg_28_10 (sk0 hs) (Nat.le_of_ble_eq_true rfl) (ct_8 (x := y) hs) ?_
  refine pg_28_13 (fun _ => ?_) (fun hc => absurd hc g0)
  refine pg_28_24 rfl ?_
  refine pg_28_25 (sk0 hs) (sr0_2 hs) ?_
  refine pg_28_28 rfl ?_
  refine pg_28_29 (sk6 hs) (by decide) (i := p) rfl (by omega) (by omega) (sr6 hs (i := p) (by omega)) ?_
  refine pg_28_30 (sk7 hs (i := p) (by omega)) ?_
  refine pg_28_33 (fun hc => absurd hc g1) (fun _ => ?_)
  exact go_eq hR.symm (pg_28_36 rfl hx)
theorem ct_28i0 {n : Nat} {E : xm_E} {c : Nat × Nat} {fi : FI} {fl : FL} {r : xm_I → Nat → Option xm_I} {d : Nat} {x : Int32} {y : Int32} (hs : sh n E c r) (hx : 200 ≤ (E.1 (E.2.2 c.1)).1) (g0 : (bI (sp_8 n x)) = 0) : xm_C E (d + 5) false 28 [xm_r (0, 0, 0), xm_i x, xm_i y] (c, fi, fl, r) (.inr (E.2.2 c.1, 0), ((c.1 + 1, c.2 + 6), fi, fl, r)) := by
  have hn := sh_n hs
  suffices key : ∀ R : xm_O, ((.inr (E.2.2 c.1, 0), ((c.1 + 1, c.2 + 6), fi, fl, r)) : xm_O) = R → xm_G E (d + 4) false 28 0 [some (xm_r (0, 0, 0)), some (xm_i x), some (xm_i y)] [] (c, fi, fl, r) R from go_in (by decide) (Nat.le_of_ble_eq_true rfl) (fun _ _ => by omega) (key _ rfl)
  intro R hR
  refine pg_28_0 rfl ?_
  refine pg_28_1 rfl ?_
  refine pg_28_2 (sk0 hs) (Nat.le_of_ble_eq_true rfl) (ct_8 (x := x) hs) ?_
  refine pg_28_5 (fun _ => ?_) (fun hc => absurd g0 hc)
  exact go_eq hR.symm (pg_28_16 rfl hx)
theorem ct_28i1 {n : Nat} {E : xm_E} {c : Nat × Nat} {fi : FI} {fl : FL} {r : xm_I → Nat → Option xm_I} {d : Nat} {x : Int32} {y : Int32} (hs : sh n E c r) (hx : 200 ≤ (E.1 (E.2.2 c.1)).1) (g0 : ¬ (bI (sp_8 n x)) = 0) (g1 : (bI (sp_8 n y)) = 0) : xm_C E (d + 5) false 28 [xm_r (0, 0, 0), xm_i x, xm_i y] (c, fi, fl, r) (.inr (E.2.2 c.1, 0), ((c.1 + 1, c.2 + 6), fi, fl, r)) := by
  have hn := sh_n hs
  suffices key : ∀ R : xm_O, ((.inr (E.2.2 c.1, 0), ((c.1 + 1, c.2 + 6), fi, fl, r)) : xm_O) = R → xm_G E (d + 4) false 28 0 [some (xm_r (0, 0, 0)), some (xm_i x), some (xm_i y)] [] (c, fi, fl, r) R from go_in (by decide) (Nat.le_of_ble_eq_true rfl) (fun _ _ => by omega) (key _ rfl)
  intro R hR
  refine pg_28_0 rfl ?_
  refine pg_28_1 rfl ?_
  refine pg_28_2 (sk0 hs) (Nat.le_of_ble_eq_true rfl) (ct_8 (x := x) hs) ?_
  refine pg_28_5 (fun hc => absurd hc g0) (fun _ => ?_)
  refine pg_28_8 rfl ?_
  refine pg_28_9 rfl ?_
  refine pg_28_10 (sk0 hs) (Nat.le_of_ble_eq_true rfl) (ct_8 (x := y) hs) ?_
  refine pg_28_13 (fun hc => absurd g1 hc) (fun _ => ?_)
  exact go_eq hR.symm (pg_28_16 rfl hx)
theorem ct_29v0 {n : Nat} {E : xm_E} {c : Nat × Nat} {fi : FI} {fl : FL} {r : xm_I → Nat → Option xm_I} {d : Nat} {md : Bool} {p : Nat} (hs : sh n E c r) (hp : p < n) (g0 : (fi (7, p, 0) 3) = 0) : xm_C E (d + 2) md 29 [xm_r (0, 0, 0), xm_i (nI p)] (c, fi, fl, r) (.inl (some (xm_i (fi (8, p, 0) 0))), (c, fi, fl, r)) := by
  have hn := sh_n hs
  suffices key : ∀ R : xm_O, ((.inl (some (xm_i (fi (8, p, 0) 0))), (c, fi, fl, r)) : xm_O) = R → xm_G E (d + 1) md 29 0 [some (xm_r (0, 0, 0)), some (xm_i (nI p))] [] (c, fi, fl, r) R from go_inr (by decide) (Nat.le_of_ble_eq_true rfl) (key _ rfl)
  intro R hR
  refine pg_29_0 rfl ?_
  refine pg_29_1 rfl ?_
  refine pg_29_2 (sk0 hs) (Nat.le_of_ble_eq_true rfl) (ct_8 (x := (nI p)) hs) ?_
  refine pg_29_5 (fun _ => ?_) (fun hc => absurd hc (isn_ok (n := n) (p := p) (by omega) (by omega)))
  refine pg_29_16 rfl ?_
  refine pg_29_17 (sk0 hs) (sr0_2 hs) ?_
  refine pg_29_20 rfl ?_
  refine pg_29_21 (sk6 hs) (by decide) (i := p) rfl (by omega) (by omega) (sr6 hs (i := p) (by omega)) ?_
  refine pg_29_22 (sk7 hs (i := p) (by omega)) ?_
  refine pg_29_25 (fun _ => ?_) (fun hc => absurd g0 hc)
  refine pg_29_36 rfl ?_
  refine pg_29_37 (sk0 hs) (sr0_2 hs) ?_
  refine pg_29_40 rfl ?_
  refine pg_29_41 (sk6 hs) (by decide) (i := p) rfl (by omega) (by omega) (sr6 hs (i := p) (by omega)) ?_
  refine pg_29_42 (sk7 hs (i := p) (by omega)) (sr7_4 hs (i := p) (by omega)) ?_
  refine pg_29_45 ?_
  refine pg_29_46 (Or.inl (sk8 hs (i := p) (by omega))) (i := 0) (rfl : (0 : Int32) = nI 0) (by omega) (by omega) ?_
  exact go_eq hR.symm (pg_29_47)
theorem ct_29v1 {n : Nat} {E : xm_E} {c : Nat × Nat} {fi : FI} {fl : FL} {r : xm_I → Nat → Option xm_I} {d : Nat} {p : Nat} (hs : sh n E c r) (hp : p < n) (hx : 200 ≤ (E.1 (E.2.2 c.1)).1) (g0 : ¬ (fi (7, p, 0) 3) = 0) : xm_C E (d + 5) false 29 [xm_r (0, 0, 0), xm_i (nI p)] (c, fi, fl, r) (.inr (E.2.2 c.1, 1), ((c.1 + 1, c.2 + 6), fi, fl, r)) := by
  have hn := sh_n hs
  suffices key : ∀ R : xm_O, ((.inr (E.2.2 c.1, 1), ((c.1 + 1, c.2 + 6), fi, fl, r)) : xm_O) = R → xm_G E (d + 4) false 29 0 [some (xm_r (0, 0, 0)), some (xm_i (nI p))] [] (c, fi, fl, r) R from go_in (by decide) (Nat.le_of_ble_eq_true rfl) (fun _ _ => by omega) (key _ rfl)
  intro R hR
  refine pg_29_0 rfl ?_
  refine pg_29_1 rfl ?_
  refine pg_29_2 (sk0 hs) (Nat.le_of_ble_eq_true rfl) (ct_8 (x := (nI p)) hs) ?_
  refine pg_29_5 (fun _ => ?_) (fun hc => absurd hc (isn_ok (n := n) (p := p) (by omega) (by omega)))
  refine pg_29_16 rfl ?_
  refine pg_29_17 (sk0 hs) (sr0_2 hs) ?_
  refine pg_29_20 rfl ?_
  refine pg_29_21 (sk6 hs) (by decide) (i := p) rfl (by omega) (by omega) (sr6 hs (i := p) (by omega)) ?_
  refine pg_29_22 (sk7 hs (i := p) (by omega)) ?_
  refine pg_29_25 (fun hc => absurd hc g0) (fun _ => ?_)
  exact go_eq hR.symm (pg_29_28 rfl hx)
theorem ct_29i0 {n : Nat} {E : xm_E} {c : Nat × Nat} {fi : FI} {fl : FL} {r : xm_I → Nat → Option xm_I} {d : Nat} {x : Int32} (hs : sh n E c r) (hx : 200 ≤ (E.1 (E.2.2 c.1)).1) (g0 : (bI (sp_8 n x)) = 0) : xm_C E (d + 5) false 29 [xm_r (0, 0, 0), xm_i x] (c, fi, fl, r) (.inr (E.2.2 c.1, 0), ((c.1 + 1, c.2 + 6), fi, fl, r)) := by
  have hn := sh_n hs
  suffices key : ∀ R : xm_O, ((.inr (E.2.2 c.1, 0), ((c.1 + 1, c.2 + 6), fi, fl, r)) : xm_O) = R → xm_G E (d + 4) false 29 0 [some (xm_r (0, 0, 0)), some (xm_i x)] [] (c, fi, fl, r) R from go_in (by decide) (Nat.le_of_ble_eq_true rfl) (fun _ _ => by omega) (key _ rfl)
  intro R hR
  refine pg_29_0 rfl ?_
  refine pg_29_1 rfl ?_
  refine pg_29_2 (sk0 hs) (Nat.le_of_ble_eq_true rfl) (ct_8 (x := x) hs) ?_
  refine pg_29_5 (fun hc => absurd g0 hc) (fun _ => ?_)
  exact go_eq hR.symm (pg_29_8 rfl hx)
theorem ct_30v0 {n : Nat} {E : xm_E} {c : Nat × Nat} {fi : FI} {fl : FL} {r : xm_I → Nat → Option xm_I} {d : Nat} {md : Bool} {p : Nat} (hs : sh n E c r) (hp : p < n) (g0 : (fi (7, p, 0) 3) = 0) : xm_C E (d + 2) md 30 [xm_r (0, 0, 0), xm_i (nI p)] (c, fi, fl, r) (.inl (some (xm_i (fi (8, p, 0) 1))), (c, fi, fl, r)) := by
  have hn := sh_n hs
  suffices key : ∀ R : xm_O, ((.inl (some (xm_i (fi (8, p, 0) 1))), (c, fi, fl, r)) : xm_O) = R → xm_G E (d + 1) md 30 0 [some (xm_r (0, 0, 0)), some (xm_i (nI p))] [] (c, fi, fl, r) R from go_inr (by decide) (Nat.le_of_ble_eq_true rfl) (key _ rfl)
  intro R hR
  refine pg_30_0 rfl ?_
  refine pg_30_1 rfl ?_
  refine pg_30_2 (sk0 hs) (Nat.le_of_ble_eq_true rfl) (ct_8 (x := (nI p)) hs) ?_
  refine pg_30_5 (fun _ => ?_) (fun hc => absurd hc (isn_ok (n := n) (p := p) (by omega) (by omega)))
  refine pg_30_16 rfl ?_
  refine pg_30_17 (sk0 hs) (sr0_2 hs) ?_
  refine pg_30_20 rfl ?_
  refine pg_30_21 (sk6 hs) (by decide) (i := p) rfl (by omega) (by omega) (sr6 hs (i := p) (by omega)) ?_
  refine pg_30_22 (sk7 hs (i := p) (by omega)) ?_
  refine pg_30_25 (fun _ => ?_) (fun hc => absurd g0 hc)
  refine pg_30_36 rfl ?_
  refine pg_30_37 (sk0 hs) (sr0_2 hs) ?_
  refine pg_30_40 rfl ?_
  refine pg_30_41 (sk6 hs) (by decide) (i := p) rfl (by omega) (by omega) (sr6 hs (i := p) (by omega)) ?_
  refine pg_30_42 (sk7 hs (i := p) (by omega)) (sr7_4 hs (i := p) (by omega)) ?_
  refine pg_30_45 ?_
  refine pg_30_46 (Or.inl (sk8 hs (i := p) (by omega))) (i := 1) (rfl : (1 : Int32) = nI 1) (by omega) (by omega) ?_
  exact go_eq hR.symm (pg_30_47)
theorem ct_30v1 {n : Nat} {E : xm_E} {c : Nat × Nat} {fi : FI} {fl : FL} {r : xm_I → Nat → Option xm_I} {d : Nat} {p : Nat} (hs : sh n E c r) (hp : p < n) (hx : 200 ≤ (E.1 (E.2.2 c.1)).1) (g0 : ¬ (fi (7, p, 0) 3) = 0) : xm_C E (d + 5) false 30 [xm_r (0, 0, 0), xm_i (nI p)] (c, fi, fl, r) (.inr (E.2.2 c.1, 1), ((c.1 + 1, c.2 + 6), fi, fl, r)) := by
  have hn := sh_n hs
  suffices key : ∀ R : xm_O, ((.inr (E.2.2 c.1, 1), ((c.1 + 1, c.2 + 6), fi, fl, r)) : xm_O) = R → xm_G E (d + 4) false 30 0 [some (xm_r (0, 0, 0)), some (xm_i (nI p))] [] (c, fi, fl, r) R from go_in (by decide) (Nat.le_of_ble_eq_true rfl) (fun _ _ => by omega) (key _ rfl)
  intro R hR
  refine pg_30_0 rfl ?_
  refine pg_30_1 rfl ?_
  refine pg_30_2 (sk0 hs) (Nat.le_of_ble_eq_true rfl) (ct_8 (x := (nI p)) hs) ?_
  refine pg_30_5 (fun _ => ?_) (fun hc => absurd hc (isn_ok (n := n) (p := p) (by omega) (by omega)))
  refine pg_30_16 rfl ?_
  refine pg_30_17 (sk0 hs) (sr0_2 hs) ?_
  refine pg_30_20 rfl ?_
  refine pg_30_21 (sk6 hs) (by decide) (i := p) rfl (by omega) (by omega) (sr6 hs (i := p) (by omega)) ?_
  refine pg_30_22 (sk7 hs (i := p) (by omega)) ?_
  refine pg_30_25 (fun hc => absurd hc g0) (fun _ => ?_)
  exact go_eq hR.symm (pg_30_28 rfl hx)
theorem ct_30i0 {n : Nat} {E : xm_E} {c : Nat × Nat} {fi : FI} {fl : FL} {r : xm_I → Nat → Option xm_I} {d : Nat} {x : Int32} (hs : sh n E c r) (hx : 200 ≤ (E.1 (E.2.2 c.1)).1) (g0 : (bI (sp_8 n x)) = 0) : xm_C E (d + 5) false 30 [xm_r (0, 0, 0), xm_i x] (c, fi, fl, r) (.inr (E.2.2 c.1, 0), ((c.1 + 1, c.2 + 6), fi, fl, r)) := by
  have hn := sh_n hs
  suffices key : ∀ R : xm_O, ((.inr (E.2.2 c.1, 0), ((c.1 + 1, c.2 + 6), fi, fl, r)) : xm_O) = R → xm_G E (d + 4) false 30 0 [some (xm_r (0, 0, 0)), some (xm_i x)] [] (c, fi, fl, r) R from go_in (by decide) (Nat.le_of_ble_eq_true rfl) (fun _ _ => by omega) (key _ rfl)
  intro R hR
  refine pg_30_0 rfl ?_
  refine pg_30_1 rfl ?_
  refine pg_30_2 (sk0 hs) (Nat.le_of_ble_eq_true rfl) (ct_8 (x := x) hs) ?_
  refine pg_30_5 (fun hc => absurd g0 hc) (fun _ => ?_)
  exact go_eq hR.symm (pg_30_8 rfl hx)
theorem ct_31v0 {n : Nat} {E : xm_E} {c : Nat × Nat} {fi : FI} {fl : FL} {r : xm_I → Nat → Option xm_I} {d : Nat} {p : Nat} (hs : sh n E c r) (hp : p < n) (hx : 200 ≤ (E.1 (E.2.2 c.1)).1) (g0 : (fi (7, p, 0) 11) = 0) : xm_C E (d + 5) false 31 [xm_r (0, 0, 0), xm_i (nI p)] (c, fi, fl, r) (.inr (E.2.2 c.1, 2), ((c.1 + 1, c.2 + 6), fi, fl, r)) := by
  have hn := sh_n hs
  suffices key : ∀ R : xm_O, ((.inr (E.2.2 c.1, 2), ((c.1 + 1, c.2 + 6), fi, fl, r)) : xm_O) = R → xm_G E (d + 4) false 31 0 [some (xm_r (0, 0, 0)), some (xm_i (nI p))] [] (c, fi, fl, r) R from go_in (by decide) (Nat.le_of_ble_eq_true rfl) (fun _ _ => by omega) (key _ rfl)
  intro R hR
  refine pg_31_0 rfl ?_
  refine pg_31_1 rfl ?_
  refine pg_31_2 (sk0 hs) (Nat.le_of_ble_eq_true rfl) (ct_8 (x := (nI p)) hs) ?_
  refine pg_31_5 (fun _ => ?_) (fun hc => absurd hc (isn_ok (n := n) (p := p) (by omega) (by omega)))
  refine pg_31_16 rfl ?_
  refine pg_31_17 (sk0 hs) (sr0_2 hs) ?_
  refine pg_31_20 rfl ?_
  refine pg_31_21 (sk6 hs) (by decide) (i := p) rfl (by omega) (by omega) (sr6 hs (i := p) (by omega)) ?_
  refine pg_31_22 (sk7 hs (i := p) (by omega)) ?_
  refine pg_31_25 (fun hc => absurd g0 hc) (fun _ => ?_)
  exact go_eq hR.symm (pg_31_28 rfl hx)
theorem ct_31v1 {n : Nat} {E : xm_E} {c : Nat × Nat} {fi : FI} {fl : FL} {r : xm_I → Nat → Option xm_I} {d : Nat} {md : Bool} {p : Nat} (hs : sh n E c r) (hp : p < n) (g0 : ¬ (fi (7, p, 0) 11) = 0) : xm_C E (d + 2) md 31 [xm_r (0, 0, 0), xm_i (nI p)] (c, fi, fl, r) (.inl (some (xm_i (fi (7, p, 0) 12))), (c, fi, fl, r)) := by
  have hn := sh_n hs
  suffices key : ∀ R : xm_O, ((.inl (some (xm_i (fi (7, p, 0) 12))), (c, fi, fl, r)) : xm_O) = R → xm_G E (d + 1) md 31 0 [some (xm_r (0, 0, 0)), some (xm_i (nI p))] [] (c, fi, fl, r) R from go_inr (by decide) (Nat.le_of_ble_eq_true rfl) (key _ rfl)
  intro R hR
  refine pg_31_0 rfl ?_
  refine pg_31_1 rfl ?_
  refine pg_31_2 (sk0 hs) (Nat.le_of_ble_eq_true rfl) (ct_8 (x := (nI p)) hs) ?_
  refine pg_31_5 (fun _ => ?_) (fun hc => absurd hc (isn_ok (n := n) (p := p) (by omega) (by omega)))
  refine pg_31_16 rfl ?_
  refine pg_31_17 (sk0 hs) (sr0_2 hs) ?_
  refine pg_31_20 rfl ?_
  refine pg_31_21 (sk6 hs) (by decide) (i := p) rfl (by omega) (by omega) (sr6 hs (i := p) (by omega)) ?_
  refine pg_31_22 (sk7 hs (i := p) (by omega)) ?_
  refine pg_31_25 (fun _ => ?_) (fun hc => absurd hc g0)
  refine pg_31_36 rfl ?_
  refine pg_31_37 (sk0 hs) (sr0_2 hs) ?_
  refine pg_31_40 rfl ?_
  refine pg_31_41 (sk6 hs) (by decide) (i := p) rfl (by omega) (by omega) (sr6 hs (i := p) (by omega)) ?_
  refine pg_31_42 (sk7 hs (i := p) (by omega)) ?_
  exact go_eq hR.symm (pg_31_45)
theorem ct_31i0 {n : Nat} {E : xm_E} {c : Nat × Nat} {fi : FI} {fl : FL} {r : xm_I → Nat → Option xm_I} {d : Nat} {x : Int32} (hs : sh n E c r) (hx : 200 ≤ (E.1 (E.2.2 c.1)).1) (g0 : (bI (sp_8 n x)) = 0) : xm_C E (d + 5) false 31 [xm_r (0, 0, 0), xm_i x] (c, fi, fl, r) (.inr (E.2.2 c.1, 0), ((c.1 + 1, c.2 + 6), fi, fl, r)) := by
  have hn := sh_n hs
  suffices key : ∀ R : xm_O, ((.inr (E.2.2 c.1, 0), ((c.1 + 1, c.2 + 6), fi, fl, r)) : xm_O) = R → xm_G E (d + 4) false 31 0 [some (xm_r (0, 0, 0)), some (xm_i x)] [] (c, fi, fl, r) R from go_in (by decide) (Nat.le_of_ble_eq_true rfl) (fun _ _ => by omega) (key _ rfl)
  intro R hR
  refine pg_31_0 rfl ?_
  refine pg_31_1 rfl ?_
  refine pg_31_2 (sk0 hs) (Nat.le_of_ble_eq_true rfl) (ct_8 (x := x) hs) ?_
  refine pg_31_5 (fun hc => absurd g0 hc) (fun _ => ?_)
  exact go_eq hR.symm (pg_31_8 rfl hx)
theorem ct_32v0 {n : Nat} {E : xm_E} {c : Nat × Nat} {fi : FI} {fl : FL} {r : xm_I → Nat → Option xm_I} {d : Nat} {md : Bool} {p : Nat} {o : Nat} (hs : sh n E c r) (hp : p < n) (ho : o < n) : xm_C E (d + 2) md 32 [xm_r (0, 0, 0), xm_i (nI p), xm_i (nI o)] (c, fi, fl, r) (.inl (some (xm_i (bI (sp_60 fi p o)))), (c, fi, fl, r)) := by
  have hn := sh_n hs
  suffices key : ∀ R : xm_O, ((.inl (some (xm_i (bI (sp_60 fi p o)))), (c, fi, fl, r)) : xm_O) = R → xm_G E (d + 1) md 32 0 [some (xm_r (0, 0, 0)), some (xm_i (nI p)), some (xm_i (nI o))] [] (c, fi, fl, r) R from go_inr (by decide) (Nat.le_of_ble_eq_true rfl) (key _ rfl)
  intro R hR
  refine pg_32_0 rfl ?_
  refine pg_32_1 rfl ?_
  refine pg_32_2 (sk0 hs) (Nat.le_of_ble_eq_true rfl) (ct_8 (x := (nI p)) hs) ?_
  refine pg_32_5 (fun hc => absurd hc (isn_ok (n := n) (p := p) (by omega) (by omega))) (fun _ => ?_)
  refine pg_32_8 rfl ?_
  refine pg_32_9 rfl ?_
  refine pg_32_10 (sk0 hs) (Nat.le_of_ble_eq_true rfl) (ct_8 (x := (nI o)) hs) ?_
  refine pg_32_13 (fun _ => ?_) (fun hc => absurd hc (isn_ok (n := n) (p := o) (by omega) (by omega)))
  refine pg_32_24 rfl ?_
  refine pg_32_25 (sk0 hs) (sr0_2 hs) ?_
  refine pg_32_28 rfl ?_
  refine pg_32_29 (sk6 hs) (by decide) (i := p) rfl (by omega) (by omega) (sr6 hs (i := p) (by omega)) ?_
  refine pg_32_30 rfl ?_
  refine pg_32_31 (sk0 hs) (sr0_2 hs) ?_
  refine pg_32_34 rfl ?_
  refine pg_32_35 (sk6 hs) (by decide) (i := o) rfl (by omega) (by omega) (sr6 hs (i := o) (by omega)) ?_
  refine pg_32_36 (sk7 hs (i := p) (by omega)) (Nat.le_of_ble_eq_true rfl) (ct_60 (a := p) (b := o) hs (by omega) (by omega)) ?_
  exact go_eq hR.symm (pg_32_39 (bI_01 _))
theorem ct_32j0 {n : Nat} {E : xm_E} {c : Nat × Nat} {fi : FI} {fl : FL} {r : xm_I → Nat → Option xm_I} {d : Nat} {p : Nat} {y : Int32} (hs : sh n E c r) (hp : p < n) (hx : 200 ≤ (E.1 (E.2.2 c.1)).1) (g0 : (bI (sp_8 n y)) = 0) : xm_C E (d + 5) false 32 [xm_r (0, 0, 0), xm_i (nI p), xm_i y] (c, fi, fl, r) (.inr (E.2.2 c.1, 0), ((c.1 + 1, c.2 + 6), fi, fl, r)) := by
  have hn := sh_n hs
  suffices key : ∀ R : xm_O, ((.inr (E.2.2 c.1, 0), ((c.1 + 1, c.2 + 6), fi, fl, r)) : xm_O) = R → xm_G E (d + 4) false 32 0 [some (xm_r (0, 0, 0)), some (xm_i (nI p)), some (xm_i y)] [] (c, fi, fl, r) R from go_in (by decide) (Nat.le_of_ble_eq_true rfl) (fun _ _ => by omega) (key _ rfl)
  intro R hR
  refine pg_32_0 rfl ?_
  refine pg_32_1 rfl ?_
  refine pg_32_2 (sk0 hs) (Nat.le_of_ble_eq_true rfl) (ct_8 (x := (nI p)) hs) ?_
  refine pg_32_5 (fun hc => absurd hc (isn_ok (n := n) (p := p) (by omega) (by omega))) (fun _ => ?_)
  refine pg_32_8 rfl ?_
  refine pg_32_9 rfl ?_
  refine pg_32_10 (sk0 hs) (Nat.le_of_ble_eq_true rfl) (ct_8 (x := y) hs) ?_
  refine pg_32_13 (fun hc => absurd g0 hc) (fun _ => ?_)
  exact go_eq hR.symm (pg_32_16 rfl hx)
theorem ct_32i0 {n : Nat} {E : xm_E} {c : Nat × Nat} {fi : FI} {fl : FL} {r : xm_I → Nat → Option xm_I} {d : Nat} {x : Int32} {y : Int32} (hs : sh n E c r) (hx : 200 ≤ (E.1 (E.2.2 c.1)).1) (g0 : (bI (sp_8 n x)) = 0) : xm_C E (d + 5) false 32 [xm_r (0, 0, 0), xm_i x, xm_i y] (c, fi, fl, r) (.inr (E.2.2 c.1, 0), ((c.1 + 1, c.2 + 6), fi, fl, r)) := by
  have hn := sh_n hs
  suffices key : ∀ R : xm_O, ((.inr (E.2.2 c.1, 0), ((c.1 + 1, c.2 + 6), fi, fl, r)) : xm_O) = R → xm_G E (d + 4) false 32 0 [some (xm_r (0, 0, 0)), some (xm_i x), some (xm_i y)] [] (c, fi, fl, r) R from go_in (by decide) (Nat.le_of_ble_eq_true rfl) (fun _ _ => by omega) (key _ rfl)
  intro R hR
  refine pg_32_0 rfl ?_
  refine pg_32_1 rfl ?_
  refine pg_32_2 (sk0 hs) (Nat.le_of_ble_eq_true rfl) (ct_8 (x := x) hs) ?_
  refine pg_32_5 (fun _ => ?_) (fun hc => absurd g0 hc)
  exact go_eq hR.symm (pg_32_16 rfl hx)
theorem ct_32i1 {n : Nat} {E : xm_E} {c : Nat × Nat} {fi : FI} {fl : FL} {r : xm_I → Nat → Option xm_I} {d : Nat} {x : Int32} {y : Int32} (hs : sh n E c r) (hx : 200 ≤ (E.1 (E.2.2 c.1)).1) (g0 : ¬ (bI (sp_8 n x)) = 0) (g1 : (bI (sp_8 n y)) = 0) : xm_C E (d + 5) false 32 [xm_r (0, 0, 0), xm_i x, xm_i y] (c, fi, fl, r) (.inr (E.2.2 c.1, 0), ((c.1 + 1, c.2 + 6), fi, fl, r)) := by
  have hn := sh_n hs
  suffices key : ∀ R : xm_O, ((.inr (E.2.2 c.1, 0), ((c.1 + 1, c.2 + 6), fi, fl, r)) : xm_O) = R → xm_G E (d + 4) false 32 0 [some (xm_r (0, 0, 0)), some (xm_i x), some (xm_i y)] [] (c, fi, fl, r) R from go_in (by decide) (Nat.le_of_ble_eq_true rfl) (fun _ _ => by omega) (key _ rfl)
  intro R hR
  refine pg_32_0 rfl ?_
  refine pg_32_1 rfl ?_
  refine pg_32_2 (sk0 hs) (Nat.le_of_ble_eq_true rfl) (ct_8 (x := x) hs) ?_
  refine pg_32_5 (fun hc => absurd hc g0) (fun _ => ?_)
  refine pg_32_8 rfl ?_
  refine pg_32_9 rfl ?_
  refine pg_32_10 (sk0 hs) (Nat.le_of_ble_eq_true rfl) (ct_8 (x := y) hs) ?_
  refine pg_32_13 (fun hc => absurd g1 hc) (fun _ => ?_)
  exact go_eq hR.symm (pg_32_16 rfl hx)
theorem ct_33v0 {n : Nat} {E : xm_E} {c : Nat × Nat} {fi : FI} {fl : FL} {r : xm_I → Nat → Option xm_I} {d : Nat} {md : Bool} {p : Nat} (hs : sh n E c r) (hp : p < n) : xm_C E (d + 2) md 33 [xm_r (0, 0, 0), xm_i (nI p)] (c, fi, fl, r) (.inl (some (xm_i (fi (5, 0, 0) p))), (c, fi, fl, r)) := by
  have hn := sh_n hs
  suffices key : ∀ R : xm_O, ((.inl (some (xm_i (fi (5, 0, 0) p))), (c, fi, fl, r)) : xm_O) = R → xm_G E (d + 1) md 33 0 [some (xm_r (0, 0, 0)), some (xm_i (nI p))] [] (c, fi, fl, r) R from go_inr (by decide) (Nat.le_of_ble_eq_true rfl) (key _ rfl)
  intro R hR
  refine pg_33_0 rfl ?_
  refine pg_33_1 rfl ?_
  refine pg_33_2 (sk0 hs) (Nat.le_of_ble_eq_true rfl) (ct_8 (x := (nI p)) hs) ?_
  refine pg_33_5 (fun _ => ?_) (fun hc => absurd hc (isn_ok (n := n) (p := p) (by omega) (by omega)))
  refine pg_33_24 rfl ?_
  refine pg_33_25 (sk0 hs) (sr0_1 hs) ?_
  refine pg_33_28 (sk2 hs) (sr2_2 hs) ?_
  refine pg_33_31 rfl ?_
  refine pg_33_32 (Or.inl (sk5 hs)) (i := p) rfl (by omega) (by omega) ?_
  exact go_eq hR.symm (pg_33_33)
theorem ct_33a0 {n : Nat} {E : xm_E} {c : Nat × Nat} {fi : FI} {fl : FL} {r : xm_I → Nat → Option xm_I} {d : Nat} {md : Bool} {m : Nat} (hs : sh n E c r) (hm : m = n) (g0 : (bI (sp_8 n (nI m))) = 0) (g1 : (nI m) = (nI (sp_21 n))) : xm_C E (d + 2) md 33 [xm_r (0, 0, 0), xm_i (nI m)] (c, fi, fl, r) (.inl (some (xm_i (fi (5, 0, 0) m))), (c, fi, fl, r)) := by
  have hn := sh_n hs
  suffices key : ∀ R : xm_O, ((.inl (some (xm_i (fi (5, 0, 0) m))), (c, fi, fl, r)) : xm_O) = R → xm_G E (d + 1) md 33 0 [some (xm_r (0, 0, 0)), some (xm_i (nI m))] [] (c, fi, fl, r) R from go_inr (by decide) (Nat.le_of_ble_eq_true rfl) (key _ rfl)
  intro R hR
  refine pg_33_0 rfl ?_
  refine pg_33_1 rfl ?_
  refine pg_33_2 (sk0 hs) (Nat.le_of_ble_eq_true rfl) (ct_8 (x := (nI m)) hs) ?_
  refine pg_33_5 (fun hc => absurd g0 hc) (fun _ => ?_)
  refine pg_33_8 rfl ?_
  refine pg_33_9 rfl ?_
  refine pg_33_10 (sk0 hs) (Nat.le_of_ble_eq_true rfl) (ct_21  hs) ?_
  refine pg_33_13 (fun _ => ?_) (fun hc => absurd g1 hc)
  refine pg_33_24 rfl ?_
  refine pg_33_25 (sk0 hs) (sr0_1 hs) ?_
  refine pg_33_28 (sk2 hs) (sr2_2 hs) ?_
  refine pg_33_31 rfl ?_
  refine pg_33_32 (Or.inl (sk5 hs)) (i := m) rfl (by omega) (by omega) ?_
  exact go_eq hR.symm (pg_33_33)
theorem ct_33a1 {n : Nat} {E : xm_E} {c : Nat × Nat} {fi : FI} {fl : FL} {r : xm_I → Nat → Option xm_I} {d : Nat} {m : Nat} (hs : sh n E c r) (hm : m = n) (hx : 200 ≤ (E.1 (E.2.2 c.1)).1) (g0 : (bI (sp_8 n (nI m))) = 0) (g1 : ¬ (nI m) = (nI (sp_21 n))) : xm_C E (d + 5) false 33 [xm_r (0, 0, 0), xm_i (nI m)] (c, fi, fl, r) (.inr (E.2.2 c.1, 0), ((c.1 + 1, c.2 + 6), fi, fl, r)) := by
  have hn := sh_n hs
  suffices key : ∀ R : xm_O, ((.inr (E.2.2 c.1, 0), ((c.1 + 1, c.2 + 6), fi, fl, r)) : xm_O) = R → xm_G E (d + 4) false 33 0 [some (xm_r (0, 0, 0)), some (xm_i (nI m))] [] (c, fi, fl, r) R from go_in (by decide) (Nat.le_of_ble_eq_true rfl) (fun _ _ => by omega) (key _ rfl)
  intro R hR
  refine pg_33_0 rfl ?_
  refine pg_33_1 rfl ?_
  refine pg_33_2 (sk0 hs) (Nat.le_of_ble_eq_true rfl) (ct_8 (x := (nI m)) hs) ?_
  refine pg_33_5 (fun hc => absurd g0 hc) (fun _ => ?_)
  refine pg_33_8 rfl ?_
  refine pg_33_9 rfl ?_
  refine pg_33_10 (sk0 hs) (Nat.le_of_ble_eq_true rfl) (ct_21  hs) ?_
  refine pg_33_13 (fun hc => absurd hc g1) (fun _ => ?_)
  exact go_eq hR.symm (pg_33_16 rfl hx)
theorem ct_33a2 {n : Nat} {E : xm_E} {c : Nat × Nat} {fi : FI} {fl : FL} {r : xm_I → Nat → Option xm_I} {d : Nat} {md : Bool} {m : Nat} (hs : sh n E c r) (hm : m = n) (g0 : ¬ (bI (sp_8 n (nI m))) = 0) : xm_C E (d + 2) md 33 [xm_r (0, 0, 0), xm_i (nI m)] (c, fi, fl, r) (.inl (some (xm_i (fi (5, 0, 0) m))), (c, fi, fl, r)) := by
  have hn := sh_n hs
  suffices key : ∀ R : xm_O, ((.inl (some (xm_i (fi (5, 0, 0) m))), (c, fi, fl, r)) : xm_O) = R → xm_G E (d + 1) md 33 0 [some (xm_r (0, 0, 0)), some (xm_i (nI m))] [] (c, fi, fl, r) R from go_inr (by decide) (Nat.le_of_ble_eq_true rfl) (key _ rfl)
  intro R hR
  refine pg_33_0 rfl ?_
  refine pg_33_1 rfl ?_
  refine pg_33_2 (sk0 hs) (Nat.le_of_ble_eq_true rfl) (ct_8 (x := (nI m)) hs) ?_
  refine pg_33_5 (fun _ => ?_) (fun hc => absurd hc g0)
  refine pg_33_24 rfl ?_
  refine pg_33_25 (sk0 hs) (sr0_1 hs) ?_
  refine pg_33_28 (sk2 hs) (sr2_2 hs) ?_
  refine pg_33_31 rfl ?_
  refine pg_33_32 (Or.inl (sk5 hs)) (i := m) rfl (by omega) (by omega) ?_
  exact go_eq hR.symm (pg_33_33)
theorem ct_33i0 {n : Nat} {E : xm_E} {c : Nat × Nat} {fi : FI} {fl : FL} {r : xm_I → Nat → Option xm_I} {d : Nat} {x : Int32} (hs : sh n E c r) (hx : 200 ≤ (E.1 (E.2.2 c.1)).1) (g0 : (bI (sp_8 n x)) = 0) (g1 : ¬ x = (nI (sp_21 n))) : xm_C E (d + 5) false 33 [xm_r (0, 0, 0), xm_i x] (c, fi, fl, r) (.inr (E.2.2 c.1, 0), ((c.1 + 1, c.2 + 6), fi, fl, r)) := by
  have hn := sh_n hs
  suffices key : ∀ R : xm_O, ((.inr (E.2.2 c.1, 0), ((c.1 + 1, c.2 + 6), fi, fl, r)) : xm_O) = R → xm_G E (d + 4) false 33 0 [some (xm_r (0, 0, 0)), some (xm_i x)] [] (c, fi, fl, r) R from go_in (by decide) (Nat.le_of_ble_eq_true rfl) (fun _ _ => by omega) (key _ rfl)
  intro R hR
  refine pg_33_0 rfl ?_
  refine pg_33_1 rfl ?_
  refine pg_33_2 (sk0 hs) (Nat.le_of_ble_eq_true rfl) (ct_8 (x := x) hs) ?_
  refine pg_33_5 (fun hc => absurd g0 hc) (fun _ => ?_)
  refine pg_33_8 rfl ?_
  refine pg_33_9 rfl ?_
  refine pg_33_10 (sk0 hs) (Nat.le_of_ble_eq_true rfl) (ct_21  hs) ?_
  refine pg_33_13 (fun hc => absurd hc g1) (fun _ => ?_)
  exact go_eq hR.symm (pg_33_16 rfl hx)
theorem ct_34l0 {n : Nat} {E : xm_E} {c : Nat × Nat} {fi : FI} {fl : FL} {r : xm_I → Nat → Option xm_I} {d : Nat} {x : Int32} {y : Int32} {z : Int32} {w : Int32} (hs : sh n E c r) (hx : 200 ≤ (E.1 (E.2.2 c.1)).1) (g0 : (bI (sp_125 x y z)) = 0) : xm_C E (d + 5) false 34 [xm_r (0, 0, 0), xm_i x, xm_i y, xm_i z, xm_i w] (c, fi, fl, r) (.inr (E.2.2 c.1, 0), ((c.1 + 1, c.2 + 6), fi, fl, r)) := by
  have hn := sh_n hs
  suffices key : ∀ R : xm_O, ((.inr (E.2.2 c.1, 0), ((c.1 + 1, c.2 + 6), fi, fl, r)) : xm_O) = R → xm_G E (d + 4) false 34 0 [some (xm_r (0, 0, 0)), some (xm_i x), some (xm_i y), some (xm_i z), some (xm_i w)] [] (c, fi, fl, r) R from go_in (by decide) (Nat.le_of_ble_eq_true rfl) (fun _ _ => by omega) (key _ rfl)
  intro R hR
  refine pg_34_0 rfl ?_
  refine pg_34_1 rfl ?_
  refine pg_34_2 rfl ?_
  refine pg_34_3 (Nat.le_of_ble_eq_true rfl) (ct_125 (s := x) (q := y) (o := z)) ?_
  refine pg_34_6 (fun hc => absurd g0 hc) (fun _ => ?_)
  exact go_eq hR.symm (pg_34_9 rfl hx)
theorem ct_34l1 {n : Nat} {E : xm_E} {c : Nat × Nat} {fi : FI} {fl : FL} {r : xm_I → Nat → Option xm_I} {d : Nat} {md : Bool} {x : Int32} {y : Int32} {z : Int32} {w : Int32} (hs : sh n E c r) (g0 : ¬ (bI (sp_125 x y z)) = 0) : xm_C E (d + 3) md 34 [xm_r (0, 0, 0), xm_i x, xm_i y, xm_i z, xm_i w] (c, fi, fl, r) (.inl (some (xm_l (sp_120 x y z w))), (c, fi, fl, r)) := by
  have hn := sh_n hs
  suffices key : ∀ R : xm_O, ((.inl (some (xm_l (sp_120 x y z w))), (c, fi, fl, r)) : xm_O) = R → xm_G E (d + 2) md 34 0 [some (xm_r (0, 0, 0)), some (xm_i x), some (xm_i y), some (xm_i z), some (xm_i w)] [] (c, fi, fl, r) R from go_inr (by decide) (Nat.le_of_ble_eq_true rfl) (key _ rfl)
  intro R hR
  refine pg_34_0 rfl ?_
  refine pg_34_1 rfl ?_
  refine pg_34_2 rfl ?_
  refine pg_34_3 (Nat.le_of_ble_eq_true rfl) (ct_125 (s := x) (q := y) (o := z)) ?_
  refine pg_34_6 (fun _ => ?_) (fun hc => absurd hc g0)
  refine pg_34_17 rfl ?_
  refine pg_34_18 rfl ?_
  refine pg_34_19 rfl ?_
  refine pg_34_20 rfl ?_
  refine pg_34_22 (Nat.le_of_ble_eq_true rfl) (ct_120 (s := x) (q := y) (o := z) (x := w)) ?_
  exact go_eq hR.symm (pg_34_25)
