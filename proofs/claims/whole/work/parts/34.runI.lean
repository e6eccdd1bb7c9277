/-! Lines through the methods of the reference that the law calls. Written by wip/whole/prog. -/
theorem ct_98v0 {n : Nat} {E : xm_E} {c : Nat × Nat} {fi : FI} {fl : FL} {r : xm_I → Nat → Option xm_I} {d : Nat} {p : Nat} {y : Int32} (hs : sh n E c r) (hp : p < n) (hf : fz n fi) : xm_C E (d + 2) true 98 [xm_r (20, 0, 0), xm_i (nI p), xm_i y] (c, fi, fl, r) (.inl (some (xm_i (fi (21, 8, 0) p))), (c, (xm_up (xm_up fi (20, 0, 0) 0 (0 : Int32)) (21, 8, 0) p y), fl, r)) := by
  have hn := sh_n hs
  suffices key : ∀ R : xm_O, ((.inl (some (xm_i (fi (21, 8, 0) p))), (c, (xm_up (xm_up fi (20, 0, 0) 0 (0 : Int32)) (21, 8, 0) p y), fl, r)) : xm_O) = R → xm_G E (d + 1) true 98 0 [some (xm_r (20, 0, 0)), some (xm_i (nI p)), some (xm_i y), none] [] (c, fi, fl, r) R from go_inr (by decide) (Nat.le_of_ble_eq_true rfl) (key _ rfl)
  intro R hR
  refine pg_98_0 rfl ?_
  refine pg_98_1 rfl ?_
  refine pg_98_2 rfl ?_
  refine pg_98_3 (sk20 hs) (Nat.le_of_ble_eq_true rfl) (ct_99 (x := (nI p)) hs (fz_kp hf (kp_re [2000, 2108] fi) rfl rfl rfl)) ?_
  refine pg_98_6 (fun _ => ?_) (fun hc => absurd (nno_ok (n := n) (p := p) (by omega) (by omega)) hc)
  refine pg_98_13 ?_
  refine pg_98_14 (sk20 hs) ?_
  refine pg_98_17 rfl ?_
  refine pg_98_18 (sk20 hs) ?_
  refine go_top (y := (0 : Int32)) (by simp [xm_up]) ?_
  refine pg_98_21 (fun _ => ?_) (fun hc => absurd (by decide) hc)
  refine pg_98_26 rfl ?_
  refine pg_98_27 (sk20 hs) (sr20_8 hs) ?_
  refine pg_98_30 rfl ?_
  refine pg_98_31 (Or.inl (sk21_8 hs)) (i := p) rfl (by omega) (by omega) ?_
  refine go_top (y := (fi (21, 8, 0) p)) (by simp [xm_up]) ?_
  refine pg_98_32 (lv' := [some (xm_r (20, 0, 0)), some (xm_i (nI p)), some (xm_i y), some (xm_i (fi (21, 8, 0) p))]) rfl ?_
  refine pg_98_33 rfl ?_
  refine pg_98_34 (sk20 hs) (sr20_8 hs) ?_
  refine pg_98_37 rfl ?_
  refine pg_98_38 rfl ?_
  refine pg_98_39 (sk21_8 hs) (i := p) rfl (by omega) (by omega) ?_
  refine pg_98_40 rfl ?_
  exact go_eq hR.symm (pg_98_41)
theorem ct_98i0 {n : Nat} {E : xm_E} {c : Nat × Nat} {fi : FI} {fl : FL} {r : xm_I → Nat → Option xm_I} {d : Nat} {x : Int32} {y : Int32} (hs : sh n E c r) (hf : fz n fi) (g0 : ¬ (bI (sp_99 n x)) = 0) : xm_C E (d + 2) true 98 [xm_r (20, 0, 0), xm_i x, xm_i y] (c, fi, fl, r) (.inl (some (xm_i (0 : Int32))), (c, (xm_up fi (20, 0, 0) 0 (1 : Int32)), fl, r)) := by
  have hn := sh_n hs
  suffices key : ∀ R : xm_O, ((.inl (some (xm_i (0 : Int32))), (c, (xm_up fi (20, 0, 0) 0 (1 : Int32)), fl, r)) : xm_O) = R → xm_G E (d + 1) true 98 0 [some (xm_r (20, 0, 0)), some (xm_i x), some (xm_i y), none] [] (c, fi, fl, r) R from go_inr (by decide) (Nat.le_of_ble_eq_true rfl) (key _ rfl)
  intro R hR
  refine pg_98_0 rfl ?_
  refine pg_98_1 rfl ?_
  refine pg_98_2 rfl ?_
  refine pg_98_3 (sk20 hs) (Nat.le_of_ble_eq_true rfl) (ct_99 (x := x) hs (fz_kp hf (kp_re [2000] fi) rfl rfl rfl)) ?_
  refine pg_98_6 (fun hc => absurd hc g0) (fun _ => ?_)
  refine pg_98_9 ?_
  refine pg_98_10 ?_
  refine pg_98_14 (sk20 hs) ?_
  refine pg_98_17 rfl ?_
  refine pg_98_18 (sk20 hs) ?_
  refine go_top (y := (1 : Int32)) (by simp [xm_up]) ?_
  refine pg_98_21 (fun hc => absurd hc (by decide)) (fun _ => ?_)
  refine pg_98_24 ?_
  exact go_eq hR.symm (pg_98_25)
theorem ct_100l0 {n : Nat} {E : xm_E} {c : Nat × Nat} {fi : FI} {fl : FL} {r : xm_I → Nat → Option xm_I} {d : Nat} {x : Int32} (hs : sh n E c r) : xm_C E (d + 1) true 100 [xm_r (20, 0, 0), xm_i x] (c, fi, fl, r) (.inl (none), (c, (xm_up (xm_up fi (20, 0, 0) 0 (0 : Int32)) (20, 0, 0) 4 x), fl, r)) := by
  have hn := sh_n hs
  suffices key : ∀ R : xm_O, ((.inl (none), (c, (xm_up (xm_up fi (20, 0, 0) 0 (0 : Int32)) (20, 0, 0) 4 x), fl, r)) : xm_O) = R → xm_G E (d + 0) true 100 0 [some (xm_r (20, 0, 0)), some (xm_i x)] [] (c, fi, fl, r) R from go_inr (by decide) (Nat.le_of_ble_eq_true rfl) (key _ rfl)
  intro R hR
  refine pg_100_0 rfl ?_
  refine pg_100_1 ?_
  refine pg_100_2 (sk20 hs) ?_
  refine pg_100_5 rfl ?_
  refine pg_100_6 rfl ?_
  refine pg_100_7 (sk20 hs) ?_
  exact go_eq hR.symm (pg_100_10)
theorem ct_101l0 {n : Nat} {E : xm_E} {c : Nat × Nat} {fi : FI} {fl : FL} {r : xm_I → Nat → Option xm_I} {d : Nat} {x : Int32} {y : Int32} {z : Int32} (hs : sh n E c r) (g0 : x < 0) : xm_C E (d + 1) true 101 [xm_r (20, 0, 0), xm_i x, xm_i y, xm_i z] (c, fi, fl, r) (.inl (none), (c, (xm_up fi (20, 0, 0) 0 (1 : Int32)), fl, r)) := by
  have hn := sh_n hs
  suffices key : ∀ R : xm_O, ((.inl (none), (c, (xm_up fi (20, 0, 0) 0 (1 : Int32)), fl, r)) : xm_O) = R → xm_G E (d + 0) true 101 0 [some (xm_r (20, 0, 0)), some (xm_i x), some (xm_i y), some (xm_i z)] [] (c, fi, fl, r) R from go_inr (by decide) (Nat.le_of_ble_eq_true rfl) (key _ rfl)
  intro R hR
  refine pg_101_0 rfl ?_
  refine pg_101_1 rfl ?_
  refine pg_101_2 (fun _ => ?_) (fun hc => absurd g0 hc)
  refine pg_101_34 ?_
  refine pg_101_35 ?_
  refine pg_101_39 (sk20 hs) ?_
  refine pg_101_42 rfl ?_
  refine pg_101_43 (sk20 hs) ?_
  refine go_top (y := (1 : Int32)) (by simp [xm_up]) ?_
  refine pg_101_46 (fun _ => ?_) (fun hc => absurd hc (by decide))
  exact go_eq hR.symm (pg_101_64)
theorem ct_101l1 {n : Nat} {E : xm_E} {c : Nat × Nat} {fi : FI} {fl : FL} {r : xm_I → Nat → Option xm_I} {d : Nat} {x : Int32} {y : Int32} {z : Int32} (hs : sh n E c r) (g0 : ¬ x < 0) (g1 : (1048576 : Int32) < x) : xm_C E (d + 1) true 101 [xm_r (20, 0, 0), xm_i x, xm_i y, xm_i z] (c, fi, fl, r) (.inl (none), (c, (xm_up fi (20, 0, 0) 0 (1 : Int32)), fl, r)) := by
  have hn := sh_n hs
  suffices key : ∀ R : xm_O, ((.inl (none), (c, (xm_up fi (20, 0, 0) 0 (1 : Int32)), fl, r)) : xm_O) = R → xm_G E (d + 0) true 101 0 [some (xm_r (20, 0, 0)), some (xm_i x), some (xm_i y), some (xm_i z)] [] (c, fi, fl, r) R from go_inr (by decide) (Nat.le_of_ble_eq_true rfl) (key _ rfl)
  intro R hR
  refine pg_101_0 rfl ?_
  refine pg_101_1 rfl ?_
  refine pg_101_2 (fun hc => absurd hc g0) (fun _ => ?_)
  refine pg_101_5 rfl ?_
  refine pg_101_6 ?_
  refine pg_101_9 (fun _ => ?_) (fun hc => absurd g1 hc)
  refine pg_101_34 ?_
  refine pg_101_35 ?_
  refine pg_101_39 (sk20 hs) ?_
  refine pg_101_42 rfl ?_
  refine pg_101_43 (sk20 hs) ?_
  refine go_top (y := (1 : Int32)) (by simp [xm_up]) ?_
  refine pg_101_46 (fun _ => ?_) (fun hc => absurd hc (by decide))
  exact go_eq hR.symm (pg_101_64)
theorem ct_101l2 {n : Nat} {E : xm_E} {c : Nat × Nat} {fi : FI} {fl : FL} {r : xm_I → Nat → Option xm_I} {d : Nat} {x : Int32} {y : Int32} {z : Int32} (hs : sh n E c r) (g0 : ¬ x < 0) (g1 : ¬ (1048576 : Int32) < x) (g2 : y < 0) : xm_C E (d + 1) true 101 [xm_r (20, 0, 0), xm_i x, xm_i y, xm_i z] (c, fi, fl, r) (.inl (none), (c, (xm_up fi (20, 0, 0) 0 (1 : Int32)), fl, r)) := by
  have hn := sh_n hs
  suffices key : ∀ R : xm_O, ((.inl (none), (c, (xm_up fi (20, 0, 0) 0 (1 : Int32)), fl, r)) : xm_O) = R → xm_G E (d + 0) true 101 0 [some (xm_r (20, 0, 0)), some (xm_i x), some (xm_i y), some (xm_i z)] [] (c, fi, fl, r) R from go_inr (by decide) (Nat.le_of_ble_eq_true rfl) (key _ rfl)
  intro R hR
  refine pg_101_0 rfl ?_
  refine pg_101_1 rfl ?_
  refine pg_101_2 (fun hc => absurd hc g0) (fun _ => ?_)
  refine pg_101_5 rfl ?_
  refine pg_101_6 ?_
  refine pg_101_9 (fun hc => absurd hc g1) (fun _ => ?_)
  refine pg_101_12 rfl ?_
  refine pg_101_13 (fun _ => ?_) (fun hc => absurd g2 hc)
  refine pg_101_34 ?_
  refine pg_101_35 ?_
  refine pg_101_39 (sk20 hs) ?_
  refine pg_101_42 rfl ?_
  refine pg_101_43 (sk20 hs) ?_
  refine go_top (y := (1 : Int32)) (by simp [xm_up]) ?_
  refine pg_101_46 (fun _ => ?_) (fun hc => absurd hc (by decide))
  exact go_eq hR.symm (pg_101_64)
theorem ct_101l3 {n : Nat} {E : xm_E} {c : Nat × Nat} {fi : FI} {fl : FL} {r : xm_I → Nat → Option xm_I} {d : Nat} {x : Int32} {y : Int32} {z : Int32} (hs : sh n E c r) (g0 : ¬ x < 0) (g1 : ¬ (1048576 : Int32) < x) (g2 : ¬ y < 0) (g3 : (1048576 : Int32) < y) : xm_C E (d + 1) true 101 [xm_r (20, 0, 0), xm_i x, xm_i y, xm_i z] (c, fi, fl, r) (.inl (none), (c, (xm_up fi (20, 0, 0) 0 (1 : Int32)), fl, r)) := by
  have hn := sh_n hs
  suffices key : ∀ R : xm_O, ((.inl (none), (c, (xm_up fi (20, 0, 0) 0 (1 : Int32)), fl, r)) : xm_O) = R → xm_G E (d + 0) true 101 0 [some (xm_r (20, 0, 0)), some (xm_i x), some (xm_i y), some (xm_i z)] [] (c, fi, fl, r) R from go_inr (by decide) (Nat.le_of_ble_eq_true rfl) (key _ rfl)
  intro R hR
  refine pg_101_0 rfl ?_
  refine pg_101_1 rfl ?_
  refine pg_101_2 (fun hc => absurd hc g0) (fun _ => ?_)
  refine pg_101_5 rfl ?_
  refine pg_101_6 ?_
  refine pg_101_9 (fun hc => absurd hc g1) (fun _ => ?_)
  refine pg_101_12 rfl ?_
  refine pg_101_13 (fun hc => absurd hc g2) (fun _ => ?_)
  refine pg_101_16 rfl ?_
  refine pg_101_17 ?_
  refine pg_101_20 (fun _ => ?_) (fun hc => absurd g3 hc)
  refine pg_101_34 ?_
  refine pg_101_35 ?_
  refine pg_101_39 (sk20 hs) ?_
  refine pg_101_42 rfl ?_
  refine pg_101_43 (sk20 hs) ?_
  refine go_top (y := (1 : Int32)) (by simp [xm_up]) ?_
  refine pg_101_46 (fun _ => ?_) (fun hc => absurd hc (by decide))
  exact go_eq hR.symm (pg_101_64)
theorem ct_101l4 {n : Nat} {E : xm_E} {c : Nat × Nat} {fi : FI} {fl : FL} {r : xm_I → Nat → Option xm_I} {d : Nat} {x : Int32} {y : Int32} {z : Int32} (hs : sh n E c r) (g0 : ¬ x < 0) (g1 : ¬ (1048576 : Int32) < x) (g2 : ¬ y < 0) (g3 : ¬ (1048576 : Int32) < y) (g4 : z < 0) : xm_C E (d + 1) true 101 [xm_r (20, 0, 0), xm_i x, xm_i y, xm_i z] (c, fi, fl, r) (.inl (none), (c, (xm_up fi (20, 0, 0) 0 (1 : Int32)), fl, r)) := by
  have hn := sh_n hs
  suffices key : ∀ R : xm_O, ((.inl (none), (c, (xm_up fi (20, 0, 0) 0 (1 : Int32)), fl, r)) : xm_O) = R → xm_G E (d + 0) true 101 0 [some (xm_r (20, 0, 0)), some (xm_i x), some (xm_i y), some (xm_i z)] [] (c, fi, fl, r) R from go_inr (by decide) (Nat.le_of_ble_eq_true rfl) (key _ rfl)
  intro R hR
  refine pg_101_0 rfl ?_
  refine pg_101_1 rfl ?_
  refine pg_101_2 (fun hc => absurd hc g0) (fun _ => ?_)
  refine pg_101_5 rfl ?_
  refine pg_101_6 ?_
  refine pg_101_9 (fun hc => absurd hc g1) (fun _ => ?_)
  refine pg_101_12 rfl ?_
  refine pg_101_13 (fun hc => absurd hc g2) (fun _ => ?_)
  refine pg_101_16 rfl ?_
  refine pg_101_17 ?_
  refine pg_101_20 (fun hc => absurd hc g3) (fun _ => ?_)
  refine pg_101_23 rfl ?_
  refine pg_101_24 (fun _ => ?_) (fun hc => absurd g4 hc)
  refine pg_101_34 ?_
  refine pg_101_35 ?_
  refine pg_101_39 (sk20 hs) ?_
  refine pg_101_42 rfl ?_
  refine pg_101_43 (sk20 hs) ?_
  refine go_top (y := (1 : Int32)) (by simp [xm_up]) ?_
  refine pg_101_46 (fun _ => ?_) (fun hc => absurd hc (by decide))
  exact go_eq hR.symm (pg_101_64)
theorem ct_101l5 {n : Nat} {E : xm_E} {c : Nat × Nat} {fi : FI} {fl : FL} {r : xm_I → Nat → Option xm_I} {d : Nat} {x : Int32} {y : Int32} {z : Int32} (hs : sh n E c r) (g0 : ¬ x < 0) (g1 : ¬ (1048576 : Int32) < x) (g2 : ¬ y < 0) (g3 : ¬ (1048576 : Int32) < y) (g4 : ¬ z < 0) (g5 : z ≤ (1048576 : Int32)) : xm_C E (d + 1) true 101 [xm_r (20, 0, 0), xm_i x, xm_i y, xm_i z] (c, fi, fl, r) (.inl (none), (c, (xm_up (xm_up (xm_up (xm_up fi (20, 0, 0) 0 (0 : Int32)) (20, 0, 0) 5 x) (20, 0, 0) 6 y) (20, 0, 0) 7 z), fl, r)) := by
  have hn := sh_n hs
  suffices key : ∀ R : xm_O, ((.inl (none), (c, (xm_up (xm_up (xm_up (xm_up fi (20, 0, 0) 0 (0 : Int32)) (20, 0, 0) 5 x) (20, 0, 0) 6 y) (20, 0, 0) 7 z), fl, r)) : xm_O) = R → xm_G E (d + 0) true 101 0 [some (xm_r (20, 0, 0)), some (xm_i x), some (xm_i y), some (xm_i z)] [] (c, fi, fl, r) R from go_inr (by decide) (Nat.le_of_ble_eq_true rfl) (key _ rfl)
  intro R hR
  refine pg_101_0 rfl ?_
  refine pg_101_1 rfl ?_
  refine pg_101_2 (fun hc => absurd hc g0) (fun _ => ?_)
  refine pg_101_5 rfl ?_
  refine pg_101_6 ?_
  refine pg_101_9 (fun hc => absurd hc g1) (fun _ => ?_)
  refine pg_101_12 rfl ?_
  refine pg_101_13 (fun hc => absurd hc g2) (fun _ => ?_)
  refine pg_101_16 rfl ?_
  refine pg_101_17 ?_
  refine pg_101_20 (fun hc => absurd hc g3) (fun _ => ?_)
  refine pg_101_23 rfl ?_
  refine pg_101_24 (fun hc => absurd hc g4) (fun _ => ?_)
  refine pg_101_27 rfl ?_
  refine pg_101_28 ?_
  refine pg_101_31 (fun _ => ?_) (fun hc => absurd g5 hc)
  refine pg_101_38 ?_
  refine pg_101_39 (sk20 hs) ?_
  refine pg_101_42 rfl ?_
  refine pg_101_43 (sk20 hs) ?_
  refine go_top (y := (0 : Int32)) (by simp [xm_up]) ?_
  refine pg_101_46 (fun hc => absurd (by decide) hc) (fun _ => ?_)
  refine pg_101_49 rfl ?_
  refine pg_101_50 rfl ?_
  refine pg_101_51 (sk20 hs) ?_
  refine pg_101_54 rfl ?_
  refine pg_101_55 rfl ?_
  refine pg_101_56 (sk20 hs) ?_
  refine pg_101_59 rfl ?_
  refine pg_101_60 rfl ?_
  refine pg_101_61 (sk20 hs) ?_
  exact go_eq hR.symm (pg_101_64)
theorem ct_101l6 {n : Nat} {E : xm_E} {c : Nat × Nat} {fi : FI} {fl : FL} {r : xm_I → Nat → Option xm_I} {d : Nat} {x : Int32} {y : Int32} {z : Int32} (hs : sh n E c r) (g0 : ¬ x < 0) (g1 : ¬ (1048576 : Int32) < x) (g2 : ¬ y < 0) (g3 : ¬ (1048576 : Int32) < y) (g4 : ¬ z < 0) (g5 : ¬ z ≤ (1048576 : Int32)) : xm_C E (d + 1) true 101 [xm_r (20, 0, 0), xm_i x, xm_i y, xm_i z] (c, fi, fl, r) (.inl (none), (c, (xm_up fi (20, 0, 0) 0 (1 : Int32)), fl, r)) := by
  have hn := sh_n hs
  suffices key : ∀ R : xm_O, ((.inl (none), (c, (xm_up fi (20, 0, 0) 0 (1 : Int32)), fl, r)) : xm_O) = R → xm_G E (d + 0) true 101 0 [some (xm_r (20, 0, 0)), some (xm_i x), some (xm_i y), some (xm_i z)] [] (c, fi, fl, r) R from go_inr (by decide) (Nat.le_of_ble_eq_true rfl) (key _ rfl)
  intro R hR
  refine pg_101_0 rfl ?_
  refine pg_101_1 rfl ?_
  refine pg_101_2 (fun hc => absurd hc g0) (fun _ => ?_)
  refine pg_101_5 rfl ?_
  refine pg_101_6 ?_
  refine pg_101_9 (fun hc => absurd hc g1) (fun _ => ?_)
  refine pg_101_12 rfl ?_
  refine pg_101_13 (fun hc => absurd hc g2) (fun _ => ?_)
  refine pg_101_16 rfl ?_
  refine pg_101_17 ?_
  refine pg_101_20 (fun hc => absurd hc g3) (fun _ => ?_)
  refine pg_101_23 rfl ?_
  refine pg_101_24 (fun hc => absurd hc g4) (fun _ => ?_)
  refine pg_101_27 rfl ?_
  refine pg_101_28 ?_
  refine pg_101_31 (fun hc => absurd hc g5) (fun _ => ?_)
  refine pg_101_34 ?_
  refine pg_101_35 ?_
  refine pg_101_39 (sk20 hs) ?_
  refine pg_101_42 rfl ?_
  refine pg_101_43 (sk20 hs) ?_
  refine go_top (y := (1 : Int32)) (by simp [xm_up]) ?_
  refine pg_101_46 (fun _ => ?_) (fun hc => absurd hc (by decide))
  exact go_eq hR.symm (pg_101_64)
theorem ct_102v0 {n : Nat} {E : xm_E} {c : Nat × Nat} {fi : FI} {fl : FL} {r : xm_I → Nat → Option xm_I} {d : Nat} {p : Nat} {x : Int32} {y : Int64} (hs : sh n E c r) (hp : p < n) (hf : fz n fi) (g0 : x < 0) : xm_C E (d + 2) true 102 [xm_r (20, 0, 0), xm_i (nI p), xm_i x, xm_l y] (c, fi, fl, r) (.inl (none), (c, (xm_up fi (20, 0, 0) 0 (1 : Int32)), fl, r)) := by
  have hn := sh_n hs
  suffices key : ∀ R : xm_O, ((.inl (none), (c, (xm_up fi (20, 0, 0) 0 (1 : Int32)), fl, r)) : xm_O) = R → xm_G E (d + 1) true 102 0 [some (xm_r (20, 0, 0)), some (xm_i (nI p)), some (xm_i x), some (xm_l y), none] [] (c, fi, fl, r) R from go_inr (by decide) (Nat.le_of_ble_eq_true rfl) (key _ rfl)
  intro R hR
  refine pg_102_0 rfl ?_
  refine pg_102_1 rfl ?_
  refine pg_102_2 rfl ?_
  refine pg_102_3 (sk20 hs) (Nat.le_of_ble_eq_true rfl) (ct_99 (x := (nI p)) hs (fz_kp hf (kp_re [2000] fi) rfl rfl rfl)) ?_
  refine pg_102_6 (fun hc => absurd (nno_ok (n := n) (p := p) (by omega) (by omega)) hc) (fun _ => ?_)
  refine pg_102_9 rfl ?_
  refine pg_102_10 (fun _ => ?_) (fun hc => absurd g0 hc)
  refine pg_102_18 ?_
  refine pg_102_19 ?_
  refine pg_102_23 (sk20 hs) ?_
  refine pg_102_26 rfl ?_
  refine pg_102_27 (sk20 hs) ?_
  refine go_top (y := (1 : Int32)) (by simp [xm_up]) ?_
  refine pg_102_30 (fun _ => ?_) (fun hc => absurd hc (by decide))
  exact go_eq hR.symm (pg_102_47)
theorem ct_102v1 {n : Nat} {E : xm_E} {c : Nat × Nat} {fi : FI} {fl : FL} {r : xm_I → Nat → Option xm_I} {d : Nat} {p : Nat} {x : Int32} {y : Int64} (hs : sh n E c r) (hp : p < n) (hf : fz n fi) (g0 : ¬ x < 0) (g1 : x ≤ (4 : Int32)) : xm_C E (d + 2) true 102 [xm_r (20, 0, 0), xm_i (nI p), xm_i x, xm_l y] (c, fi, fl, r) (.inl (none), (c, (xm_up (xm_up fi (20, 0, 0) 0 (0 : Int32)) (21, 9, 0) p x), (xm_up fl (21, 10, 0) p y), r)) := by
  have hn := sh_n hs
  suffices key : ∀ R : xm_O, ((.inl (none), (c, (xm_up (xm_up fi (20, 0, 0) 0 (0 : Int32)) (21, 9, 0) p x), (xm_up fl (21, 10, 0) p y), r)) : xm_O) = R → xm_G E (d + 1) true 102 0 [some (xm_r (20, 0, 0)), some (xm_i (nI p)), some (xm_i x), some (xm_l y), none] [] (c, fi, fl, r) R from go_inr (by decide) (Nat.le_of_ble_eq_true rfl) (key _ rfl)
  intro R hR
  refine pg_102_0 rfl ?_
  refine pg_102_1 rfl ?_
  refine pg_102_2 rfl ?_
  refine pg_102_3 (sk20 hs) (Nat.le_of_ble_eq_true rfl) (ct_99 (x := (nI p)) hs (fz_kp hf (kp_re [2000, 2109] fi) rfl rfl rfl)) ?_
  refine pg_102_6 (fun hc => absurd (nno_ok (n := n) (p := p) (by omega) (by omega)) hc) (fun _ => ?_)
  refine pg_102_9 rfl ?_
  refine pg_102_10 (fun hc => absurd hc g0) (fun _ => ?_)
  refine pg_102_13 rfl ?_
  refine pg_102_14 ?_
  refine pg_102_15 (fun _ => ?_) (fun hc => absurd g1 hc)
  refine pg_102_22 ?_
  refine pg_102_23 (sk20 hs) ?_
  refine pg_102_26 rfl ?_
  refine pg_102_27 (sk20 hs) ?_
  refine go_top (y := (0 : Int32)) (by simp [xm_up]) ?_
  refine pg_102_30 (fun hc => absurd (by decide) hc) (fun _ => ?_)
  refine pg_102_33 rfl ?_
  refine pg_102_34 (sk20 hs) (sr20_9 hs) ?_
  refine pg_102_37 rfl ?_
  refine pg_102_38 rfl ?_
  refine pg_102_39 (sk21_9 hs) (i := p) rfl (by omega) (by omega) ?_
  refine pg_102_40 rfl ?_
  refine pg_102_41 (sk20 hs) (sr20_10 hs) ?_
  refine pg_102_44 rfl ?_
  refine pg_102_45 rfl ?_
  refine pg_102_46 (sk21_10 hs) (i := p) rfl (by omega) (by omega) ?_
  exact go_eq hR.symm (pg_102_47)
theorem ct_102v2 {n : Nat} {E : xm_E} {c : Nat × Nat} {fi : FI} {fl : FL} {r : xm_I → Nat → Option xm_I} {d : Nat} {p : Nat} {x : Int32} {y : Int64} (hs : sh n E c r) (hp : p < n) (hf : fz n fi) (g0 : ¬ x < 0) (g1 : ¬ x ≤ (4 : Int32)) : xm_C E (d + 2) true 102 [xm_r (20, 0, 0), xm_i (nI p), xm_i x, xm_l y] (c, fi, fl, r) (.inl (none), (c, (xm_up fi (20, 0, 0) 0 (1 : Int32)), fl, r)) := by
  have hn := sh_n hs
  suffices key : ∀ R : xm_O, ((.inl (none), (c, (xm_up fi (20, 0, 0) 0 (1 : Int32)), fl, r)) : xm_O) = R → xm_G E (d + 1) true 102 0 [some (xm_r (20, 0, 0)), some (xm_i (nI p)), some (xm_i x), some (xm_l y), none] [] (c, fi, fl, r) R from go_inr (by decide) (Nat.le_of_ble_eq_true rfl) (key _ rfl)
  intro R hR
  refine pg_102_0 rfl ?_
  refine pg_102_1 rfl ?_
  refine pg_102_2 rfl ?_
  refine pg_102_3 (sk20 hs) (Nat.le_of_ble_eq_true rfl) (ct_99 (x := (nI p)) hs (fz_kp hf (kp_re [2000] fi) rfl rfl rfl)) ?_
  refine pg_102_6 (fun hc => absurd (nno_ok (n := n) (p := p) (by omega) (by omega)) hc) (fun _ => ?_)
  refine pg_102_9 rfl ?_
  refine pg_102_10 (fun hc => absurd hc g0) (fun _ => ?_)
  refine pg_102_13 rfl ?_
  refine pg_102_14 ?_
  refine pg_102_15 (fun hc => absurd hc g1) (fun _ => ?_)
  refine pg_102_18 ?_
  refine pg_102_19 ?_
  refine pg_102_23 (sk20 hs) ?_
  refine pg_102_26 rfl ?_
  refine pg_102_27 (sk20 hs) ?_
  refine go_top (y := (1 : Int32)) (by simp [xm_up]) ?_
  refine pg_102_30 (fun _ => ?_) (fun hc => absurd hc (by decide))
  exact go_eq hR.symm (pg_102_47)
theorem ct_102i0 {n : Nat} {E : xm_E} {c : Nat × Nat} {fi : FI} {fl : FL} {r : xm_I → Nat → Option xm_I} {d : Nat} {x : Int32} {y : Int32} {z : Int64} (hs : sh n E c r) (hf : fz n fi) (g0 : (bI (sp_99 n x)) = 0) (g1 : y < 0) : xm_C E (d + 2) true 102 [xm_r (20, 0, 0), xm_i x, xm_i y, xm_l z] (c, fi, fl, r) (.inl (none), (c, (xm_up fi (20, 0, 0) 0 (1 : Int32)), fl, r)) := by
  have hn := sh_n hs
  suffices key : ∀ R : xm_O, ((.inl (none), (c, (xm_up fi (20, 0, 0) 0 (1 : Int32)), fl, r)) : xm_O) = R → xm_G E (d + 1) true 102 0 [some (xm_r (20, 0, 0)), some (xm_i x), some (xm_i y), some (xm_l z), none] [] (c, fi, fl, r) R from go_inr (by decide) (Nat.le_of_ble_eq_true rfl) (key _ rfl)
  intro R hR
  refine pg_102_0 rfl ?_
  refine pg_102_1 rfl ?_
  refine pg_102_2 rfl ?_
  refine pg_102_3 (sk20 hs) (Nat.le_of_ble_eq_true rfl) (ct_99 (x := x) hs (fz_kp hf (kp_re [2000] fi) rfl rfl rfl)) ?_
  refine pg_102_6 (fun hc => absurd g0 hc) (fun _ => ?_)
  refine pg_102_9 rfl ?_
  refine pg_102_10 (fun _ => ?_) (fun hc => absurd g1 hc)
  refine pg_102_18 ?_
  refine pg_102_19 ?_
  refine pg_102_23 (sk20 hs) ?_
  refine pg_102_26 rfl ?_
  refine pg_102_27 (sk20 hs) ?_
  refine go_top (y := (1 : Int32)) (by simp [xm_up]) ?_
  refine pg_102_30 (fun _ => ?_) (fun hc => absurd hc (by decide))
  exact go_eq hR.symm (pg_102_47)
theorem ct_102i1 {n : Nat} {E : xm_E} {c : Nat × Nat} {fi : FI} {fl : FL} {r : xm_I → Nat → Option xm_I} {d : Nat} {x : Int32} {y : Int32} {z : Int64} (hs : sh n E c r) (hf : fz n fi) (g0 : (bI (sp_99 n x)) = 0) (g1 : ¬ y < 0) (g2 : ¬ y ≤ (4 : Int32)) : xm_C E (d + 2) true 102 [xm_r (20, 0, 0), xm_i x, xm_i y, xm_l z] (c, fi, fl, r) (.inl (none), (c, (xm_up fi (20, 0, 0) 0 (1 : Int32)), fl, r)) := by
  have hn := sh_n hs
  suffices key : ∀ R : xm_O, ((.inl (none), (c, (xm_up fi (20, 0, 0) 0 (1 : Int32)), fl, r)) : xm_O) = R → xm_G E (d + 1) true 102 0 [some (xm_r (20, 0, 0)), some (xm_i x), some (xm_i y), some (xm_l z), none] [] (c, fi, fl, r) R from go_inr (by decide) (Nat.le_of_ble_eq_true rfl) (key _ rfl)
  intro R hR
  refine pg_102_0 rfl ?_
  refine pg_102_1 rfl ?_
  refine pg_102_2 rfl ?_
  refine pg_102_3 (sk20 hs) (Nat.le_of_ble_eq_true rfl) (ct_99 (x := x) hs (fz_kp hf (kp_re [2000] fi) rfl rfl rfl)) ?_
  refine pg_102_6 (fun hc => absurd g0 hc) (fun _ => ?_)
  refine pg_102_9 rfl ?_
  refine pg_102_10 (fun hc => absurd hc g1) (fun _ => ?_)
  refine pg_102_13 rfl ?_
  refine pg_102_14 ?_
  refine pg_102_15 (fun hc => absurd hc g2) (fun _ => ?_)
  refine pg_102_18 ?_
  refine pg_102_19 ?_
  refine pg_102_23 (sk20 hs) ?_
  refine pg_102_26 rfl ?_
  refine pg_102_27 (sk20 hs) ?_
  refine go_top (y := (1 : Int32)) (by simp [xm_up]) ?_
  refine pg_102_30 (fun _ => ?_) (fun hc => absurd hc (by decide))
  exact go_eq hR.symm (pg_102_47)
theorem ct_102i2 {n : Nat} {E : xm_E} {c : Nat × Nat} {fi : FI} {fl : FL} {r : xm_I → Nat → Option xm_I} {d : Nat} {x : Int32} {y : Int32} {z : Int64} (hs : sh n E c r) (hf : fz n fi) (g0 : ¬ (bI (sp_99 n x)) = 0) : xm_C E (d + 2) true 102 [xm_r (20, 0, 0), xm_i x, xm_i y, xm_l z] (c, fi, fl, r) (.inl (none), (c, (xm_up fi (20, 0, 0) 0 (1 : Int32)), fl, r)) := by
  have hn := sh_n hs
  suffices key : ∀ R : xm_O, ((.inl (none), (c, (xm_up fi (20, 0, 0) 0 (1 : Int32)), fl, r)) : xm_O) = R → xm_G E (d + 1) true 102 0 [some (xm_r (20, 0, 0)), some (xm_i x), some (xm_i y), some (xm_l z), none] [] (c, fi, fl, r) R from go_inr (by decide) (Nat.le_of_ble_eq_true rfl) (key _ rfl)
  intro R hR
  refine pg_102_0 rfl ?_
  refine pg_102_1 rfl ?_
  refine pg_102_2 rfl ?_
  refine pg_102_3 (sk20 hs) (Nat.le_of_ble_eq_true rfl) (ct_99 (x := x) hs (fz_kp hf (kp_re [2000] fi) rfl rfl rfl)) ?_
  refine pg_102_6 (fun _ => ?_) (fun hc => absurd hc g0)
  refine pg_102_18 ?_
  refine pg_102_19 ?_
  refine pg_102_23 (sk20 hs) ?_
  refine pg_102_26 rfl ?_
  refine pg_102_27 (sk20 hs) ?_
  refine go_top (y := (1 : Int32)) (by simp [xm_up]) ?_
  refine pg_102_30 (fun _ => ?_) (fun hc => absurd hc (by decide))
  exact go_eq hR.symm (pg_102_47)
theorem ct_103v0 {n : Nat} {E : xm_E} {c : Nat × Nat} {fi : FI} {fl : FL} {r : xm_I → Nat → Option xm_I} {d : Nat} {p : Nat} (hs : sh n E c r) (hp : p < n) (hf : fz n fi) (g0 : (fi (21, 11, 0) p) = 0) : xm_C E (d + 2) true 103 [xm_r (20, 0, 0), xm_i (nI p)] (c, fi, fl, r) (.inl (some (xm_i (1 : Int32))), (c, (xm_up (xm_up (xm_up (xm_up fi (20, 0, 0) 0 (0 : Int32)) (21, 11, 0) p (1 : Int32)) (21, 18, 0) p (0 : Int32)) (21, 19, 0) p (0 : Int32)), fl, r)) := by
  have hn := sh_n hs
  suffices key : ∀ R : xm_O, ((.inl (some (xm_i (1 : Int32))), (c, (xm_up (xm_up (xm_up (xm_up fi (20, 0, 0) 0 (0 : Int32)) (21, 11, 0) p (1 : Int32)) (21, 18, 0) p (0 : Int32)) (21, 19, 0) p (0 : Int32)), fl, r)) : xm_O) = R → xm_G E (d + 1) true 103 0 [some (xm_r (20, 0, 0)), some (xm_i (nI p))] [] (c, fi, fl, r) R from go_inr (by decide) (Nat.le_of_ble_eq_true rfl) (key _ rfl)
  intro R hR
  refine pg_103_0 rfl ?_
  refine pg_103_1 rfl ?_
  refine pg_103_2 rfl ?_
  refine pg_103_3 (sk20 hs) (Nat.le_of_ble_eq_true rfl) (ct_99 (x := (nI p)) hs (fz_kp hf (kp_re [2000, 2111, 2118, 2119] fi) rfl rfl rfl)) ?_
  refine pg_103_6 (fun _ => ?_) (fun hc => absurd (nno_ok (n := n) (p := p) (by omega) (by omega)) hc)
  refine pg_103_13 ?_
  refine pg_103_14 (sk20 hs) ?_
  refine pg_103_17 rfl ?_
  refine pg_103_18 (sk20 hs) ?_
  refine go_top (y := (0 : Int32)) (by simp [xm_up]) ?_
  refine pg_103_21 (fun hc => absurd hc (by decide)) (fun _ => ?_)
  refine pg_103_24 rfl ?_
  refine pg_103_25 (sk20 hs) (sr20_11 hs) ?_
  refine pg_103_28 rfl ?_
  refine pg_103_29 (sk21_11 hs) (i := p) rfl (by omega) (by omega) ?_
  refine go_top (y := (fi (21, 11, 0) p)) (by simp [xm_up]) ?_
  refine pg_103_30 (fun _ => ?_) (fun hc => absurd g0 hc)
  refine pg_103_35 rfl ?_
  refine pg_103_36 (sk20 hs) (sr20_11 hs) ?_
  refine pg_103_39 rfl ?_
  refine pg_103_40 ?_
  refine pg_103_41 (sk21_11 hs) (i := p) rfl (by omega) (by omega) (Or.inr rfl) ?_
  refine pg_103_42 rfl ?_
  refine pg_103_43 (sk20 hs) (sr20_18 hs) ?_
  refine pg_103_46 rfl ?_
  refine pg_103_47 ?_
  refine pg_103_48 (sk21_18 hs) (i := p) rfl (by omega) (by omega) (Or.inl rfl) ?_
  refine pg_103_49 rfl ?_
  refine pg_103_50 (sk20 hs) (sr20_19 hs) ?_
  refine pg_103_53 rfl ?_
  refine pg_103_54 ?_
  refine pg_103_55 (sk21_19 hs) (i := p) rfl (by omega) (by omega) (Or.inl rfl) ?_
  refine pg_103_56 ?_
  exact go_eq hR.symm (pg_103_57 (Or.inr rfl))
theorem ct_103v1 {n : Nat} {E : xm_E} {c : Nat × Nat} {fi : FI} {fl : FL} {r : xm_I → Nat → Option xm_I} {d : Nat} {p : Nat} (hs : sh n E c r) (hp : p < n) (hf : fz n fi) (g0 : ¬ (fi (21, 11, 0) p) = 0) : xm_C E (d + 2) true 103 [xm_r (20, 0, 0), xm_i (nI p)] (c, fi, fl, r) (.inl (some (xm_i (0 : Int32))), (c, (xm_up fi (20, 0, 0) 0 (0 : Int32)), fl, r)) := by
  have hn := sh_n hs
  suffices key : ∀ R : xm_O, ((.inl (some (xm_i (0 : Int32))), (c, (xm_up fi (20, 0, 0) 0 (0 : Int32)), fl, r)) : xm_O) = R → xm_G E (d + 1) true 103 0 [some (xm_r (20, 0, 0)), some (xm_i (nI p))] [] (c, fi, fl, r) R from go_inr (by decide) (Nat.le_of_ble_eq_true rfl) (key _ rfl)
  intro R hR
  refine pg_103_0 rfl ?_
  refine pg_103_1 rfl ?_
  refine pg_103_2 rfl ?_
  refine pg_103_3 (sk20 hs) (Nat.le_of_ble_eq_true rfl) (ct_99 (x := (nI p)) hs (fz_kp hf (kp_re [2000] fi) rfl rfl rfl)) ?_
  refine pg_103_6 (fun _ => ?_) (fun hc => absurd (nno_ok (n := n) (p := p) (by omega) (by omega)) hc)
  refine pg_103_13 ?_
  refine pg_103_14 (sk20 hs) ?_
  refine pg_103_17 rfl ?_
  refine pg_103_18 (sk20 hs) ?_
  refine go_top (y := (0 : Int32)) (by simp [xm_up]) ?_
  refine pg_103_21 (fun hc => absurd hc (by decide)) (fun _ => ?_)
  refine pg_103_24 rfl ?_
  refine pg_103_25 (sk20 hs) (sr20_11 hs) ?_
  refine pg_103_28 rfl ?_
  refine pg_103_29 (sk21_11 hs) (i := p) rfl (by omega) (by omega) ?_
  refine go_top (y := (fi (21, 11, 0) p)) (by simp [xm_up]) ?_
  refine pg_103_30 (fun hc => absurd hc g0) (fun _ => ?_)
  refine pg_103_33 ?_
  exact go_eq hR.symm (pg_103_34 (Or.inl rfl))
theorem ct_103i0 {n : Nat} {E : xm_E} {c : Nat × Nat} {fi : FI} {fl : FL} {r : xm_I → Nat → Option xm_I} {d : Nat} {x : Int32} (hs : sh n E c r) (hf : fz n fi) (g0 : ¬ (bI (sp_99 n x)) = 0) : xm_C E (d + 2) true 103 [xm_r (20, 0, 0), xm_i x] (c, fi, fl, r) (.inl (some (xm_i (0 : Int32))), (c, (xm_up fi (20, 0, 0) 0 (1 : Int32)), fl, r)) := by
  have hn := sh_n hs
  suffices key : ∀ R : xm_O, ((.inl (some (xm_i (0 : Int32))), (c, (xm_up fi (20, 0, 0) 0 (1 : Int32)), fl, r)) : xm_O) = R → xm_G E (d + 1) true 103 0 [some (xm_r (20, 0, 0)), some (xm_i x)] [] (c, fi, fl, r) R from go_inr (by decide) (Nat.le_of_ble_eq_true rfl) (key _ rfl)
  intro R hR
  refine pg_103_0 rfl ?_
  refine pg_103_1 rfl ?_
  refine pg_103_2 rfl ?_
  refine pg_103_3 (sk20 hs) (Nat.le_of_ble_eq_true rfl) (ct_99 (x := x) hs (fz_kp hf (kp_re [2000] fi) rfl rfl rfl)) ?_
  refine pg_103_6 (fun hc => absurd hc g0) (fun _ => ?_)
  refine pg_103_9 ?_
  refine pg_103_10 ?_
  refine pg_103_14 (sk20 hs) ?_
  refine pg_103_17 rfl ?_
  refine pg_103_18 (sk20 hs) ?_
  refine go_top (y := (1 : Int32)) (by simp [xm_up]) ?_
  refine pg_103_21 (fun _ => ?_) (fun hc => absurd (by decide) hc)
  refine pg_103_33 ?_
  exact go_eq hR.symm (pg_103_34 (Or.inl rfl))
theorem ct_70i0 {n : Nat} {E : xm_E} {c : Nat × Nat} {fi : FI} {fl : FL} {r : xm_I → Nat → Option xm_I} {d : Nat} {x : Int32} (hs : sh n E c r) (hf : fz n fi) (g0 : x < (1 : Int32)) (g1 : x ≤ (0 : Int32)) : xm_C E (d + 6) true 70 [xm_r (20, 0, 0), xm_i x] (c, fi, fl, r) (.inl (some (xm_i (0 : Int32))), (c, (xm_up fi (20, 0, 0) 0 (1 : Int32)), fl, r)) := by
  have hn := sh_n hs
  suffices key : ∀ R : xm_O, ((.inl (some (xm_i (0 : Int32))), (c, (xm_up fi (20, 0, 0) 0 (1 : Int32)), fl, r)) : xm_O) = R → xm_G E (d + 5) true 70 0 [some (xm_r (20, 0, 0)), some (xm_i x), none, none] [] (c, fi, fl, r) R from go_inr (by decide) (Nat.le_of_ble_eq_true rfl) (key _ rfl)
  intro R hR
  refine pg_70_0 rfl ?_
  refine pg_70_1 rfl ?_
  refine pg_70_2 ?_
  refine pg_70_3 (fun _ => ?_) (fun hc => absurd g0 hc)
  refine pg_70_11 ?_
  refine pg_70_12 ?_
  refine pg_70_16 (sk20 hs) ?_
  refine pg_70_19 ?_
  refine pg_70_20 (lv' := [some (xm_r (20, 0, 0)), some (xm_i x), some (xm_i (0 : Int32)), none]) rfl ?_
  refine pg_70_21 rfl ?_
  refine pg_70_22 rfl ?_
  refine pg_70_23 (fun _ => ?_) (fun hc => absurd g1 hc)
  refine pg_70_136 rfl ?_
  refine pg_70_137 (sk20 hs) ?_
  refine go_top (y := (1 : Int32)) (by simp [xm_up]) ?_
  refine pg_70_140 (fun _ => ?_) (fun hc => absurd hc (by decide))
  refine pg_70_150 ?_
  exact go_eq hR.symm (pg_70_151)
theorem ct_70i1 {n : Nat} {E : xm_E} {c : Nat × Nat} {fi : FI} {fl : FL} {r : xm_I → Nat → Option xm_I} {d : Nat} {x : Int32} (hs : sh n E c r) (hf : fz n fi) (g0 : x < (1 : Int32)) (g1 : ¬ x ≤ (0 : Int32)) : xm_C E (d + 6) true 70 [xm_r (20, 0, 0), xm_i x] (c, fi, fl, r) (.inl (some (xm_i (0 : Int32))), (c, (xm_up fi (20, 0, 0) 0 (1 : Int32)), fl, r)) := by
  have hn := sh_n hs
  suffices key : ∀ R : xm_O, ((.inl (some (xm_i (0 : Int32))), (c, (xm_up fi (20, 0, 0) 0 (1 : Int32)), fl, r)) : xm_O) = R → xm_G E (d + 5) true 70 0 [some (xm_r (20, 0, 0)), some (xm_i x), none, none] [] (c, fi, fl, r) R from go_inr (by decide) (Nat.le_of_ble_eq_true rfl) (key _ rfl)
  intro R hR
  refine pg_70_0 rfl ?_
  refine pg_70_1 rfl ?_
  refine pg_70_2 ?_
  refine pg_70_3 (fun _ => ?_) (fun hc => absurd g0 hc)
  refine pg_70_11 ?_
  refine pg_70_12 ?_
  refine pg_70_16 (sk20 hs) ?_
  refine pg_70_19 ?_
  refine pg_70_20 (lv' := [some (xm_r (20, 0, 0)), some (xm_i x), some (xm_i (0 : Int32)), none]) rfl ?_
  refine pg_70_21 rfl ?_
  refine pg_70_22 rfl ?_
  refine pg_70_23 (fun hc => absurd hc g1) (fun _ => ?_)
  refine pg_70_26 rfl ?_
  refine pg_70_27 (sk20 hs) ?_
  refine go_top (y := (1 : Int32)) (by simp [xm_up]) ?_
  refine pg_70_30 (fun _ => ?_) (fun hc => absurd hc (by decide))
  refine pg_70_136 rfl ?_
  refine pg_70_137 (sk20 hs) ?_
  refine go_top (y := (1 : Int32)) (by simp [xm_up]) ?_
  refine pg_70_140 (fun _ => ?_) (fun hc => absurd hc (by decide))
  refine pg_70_150 ?_
  exact go_eq hR.symm (pg_70_151)
theorem ct_70i2 {n : Nat} {E : xm_E} {c : Nat × Nat} {fi : FI} {fl : FL} {r : xm_I → Nat → Option xm_I} {d : Nat} {x : Int32} (hs : sh n E c r) (hf : fz n fi) (g0 : ¬ x < (1 : Int32)) (g1 : x ≤ (4 : Int32)) (g2 : x ≤ (0 : Int32)) : xm_C E (d + 6) true 70 [xm_r (20, 0, 0), xm_i x] (c, fi, fl, r) (.inl (some (xm_i (fi (20, 0, 0) 3))), (c, (xm_up fi (20, 0, 0) 0 (0 : Int32)), fl, r)) := by
  have hn := sh_n hs
  suffices key : ∀ R : xm_O, ((.inl (some (xm_i (fi (20, 0, 0) 3))), (c, (xm_up fi (20, 0, 0) 0 (0 : Int32)), fl, r)) : xm_O) = R → xm_G E (d + 5) true 70 0 [some (xm_r (20, 0, 0)), some (xm_i x), none, none] [] (c, fi, fl, r) R from go_inr (by decide) (Nat.le_of_ble_eq_true rfl) (key _ rfl)
  intro R hR
  refine pg_70_0 rfl ?_
  refine pg_70_1 rfl ?_
  refine pg_70_2 ?_
  refine pg_70_3 (fun hc => absurd hc g0) (fun _ => ?_)
  refine pg_70_6 rfl ?_
  refine pg_70_7 ?_
  refine pg_70_8 (fun _ => ?_) (fun hc => absurd g1 hc)
  refine pg_70_15 ?_
  refine pg_70_16 (sk20 hs) ?_
  refine pg_70_19 ?_
  refine pg_70_20 (lv' := [some (xm_r (20, 0, 0)), some (xm_i x), some (xm_i (0 : Int32)), none]) rfl ?_
  refine pg_70_21 rfl ?_
  refine pg_70_22 rfl ?_
  refine pg_70_23 (fun _ => ?_) (fun hc => absurd g2 hc)
  refine pg_70_136 rfl ?_
  refine pg_70_137 (sk20 hs) ?_
  refine go_top (y := (0 : Int32)) (by simp [xm_up]) ?_
  refine pg_70_140 (fun hc => absurd (by decide) hc) (fun _ => ?_)
  refine pg_70_143 rfl ?_
  refine pg_70_144 (sk20 hs) ?_
  refine go_top (y := (fi (20, 0, 0) 3)) (by simp [xm_up]) ?_
  refine pg_70_147 ?_
  exact go_eq hR.symm (pg_70_151)
theorem ct_70i3 {n : Nat} {E : xm_E} {c : Nat × Nat} {fi : FI} {fl : FL} {r : xm_I → Nat → Option xm_I} {d : Nat} {x : Int32} (hs : sh n E c r) (hf : fz n fi) (g0 : ¬ x < (1 : Int32)) (g1 : ¬ x ≤ (4 : Int32)) (g2 : x ≤ (0 : Int32)) : xm_C E (d + 6) true 70 [xm_r (20, 0, 0), xm_i x] (c, fi, fl, r) (.inl (some (xm_i (0 : Int32))), (c, (xm_up fi (20, 0, 0) 0 (1 : Int32)), fl, r)) := by
  have hn := sh_n hs
  suffices key : ∀ R : xm_O, ((.inl (some (xm_i (0 : Int32))), (c, (xm_up fi (20, 0, 0) 0 (1 : Int32)), fl, r)) : xm_O) = R → xm_G E (d + 5) true 70 0 [some (xm_r (20, 0, 0)), some (xm_i x), none, none] [] (c, fi, fl, r) R from go_inr (by decide) (Nat.le_of_ble_eq_true rfl) (key _ rfl)
  intro R hR
  refine pg_70_0 rfl ?_
  refine pg_70_1 rfl ?_
  refine pg_70_2 ?_
  refine pg_70_3 (fun hc => absurd hc g0) (fun _ => ?_)
  refine pg_70_6 rfl ?_
  refine pg_70_7 ?_
  refine pg_70_8 (fun hc => absurd hc g1) (fun _ => ?_)
  refine pg_70_11 ?_
  refine pg_70_12 ?_
  refine pg_70_16 (sk20 hs) ?_
  refine pg_70_19 ?_
  refine pg_70_20 (lv' := [some (xm_r (20, 0, 0)), some (xm_i x), some (xm_i (0 : Int32)), none]) rfl ?_
  refine pg_70_21 rfl ?_
  refine pg_70_22 rfl ?_
  refine pg_70_23 (fun _ => ?_) (fun hc => absurd g2 hc)
  refine pg_70_136 rfl ?_
  refine pg_70_137 (sk20 hs) ?_
  refine go_top (y := (1 : Int32)) (by simp [xm_up]) ?_
  refine pg_70_140 (fun _ => ?_) (fun hc => absurd hc (by decide))
  refine pg_70_150 ?_
  exact go_eq hR.symm (pg_70_151)
theorem ct_70i4 {n : Nat} {E : xm_E} {c : Nat × Nat} {fi : FI} {fl : FL} {r : xm_I → Nat → Option xm_I} {d : Nat} {x : Int32} (hs : sh n E c r) (hf : fz n fi) (g0 : ¬ x < (1 : Int32)) (g1 : ¬ x ≤ (4 : Int32)) (g2 : ¬ x ≤ (0 : Int32)) : xm_C E (d + 6) true 70 [xm_r (20, 0, 0), xm_i x] (c, fi, fl, r) (.inl (some (xm_i (0 : Int32))), (c, (xm_up fi (20, 0, 0) 0 (1 : Int32)), fl, r)) := by
  have hn := sh_n hs
  suffices key : ∀ R : xm_O, ((.inl (some (xm_i (0 : Int32))), (c, (xm_up fi (20, 0, 0) 0 (1 : Int32)), fl, r)) : xm_O) = R → xm_G E (d + 5) true 70 0 [some (xm_r (20, 0, 0)), some (xm_i x), none, none] [] (c, fi, fl, r) R from go_inr (by decide) (Nat.le_of_ble_eq_true rfl) (key _ rfl)
  intro R hR
  refine pg_70_0 rfl ?_
  refine pg_70_1 rfl ?_
  refine pg_70_2 ?_
  refine pg_70_3 (fun hc => absurd hc g0) (fun _ => ?_)
  refine pg_70_6 rfl ?_
  refine pg_70_7 ?_
  refine pg_70_8 (fun hc => absurd hc g1) (fun _ => ?_)
  refine pg_70_11 ?_
  refine pg_70_12 ?_
  refine pg_70_16 (sk20 hs) ?_
  refine pg_70_19 ?_
  refine pg_70_20 (lv' := [some (xm_r (20, 0, 0)), some (xm_i x), some (xm_i (0 : Int32)), none]) rfl ?_
  refine pg_70_21 rfl ?_
  refine pg_70_22 rfl ?_
  refine pg_70_23 (fun hc => absurd hc g2) (fun _ => ?_)
  refine pg_70_26 rfl ?_
  refine pg_70_27 (sk20 hs) ?_
  refine go_top (y := (1 : Int32)) (by simp [xm_up]) ?_
  refine pg_70_30 (fun _ => ?_) (fun hc => absurd hc (by decide))
  refine pg_70_136 rfl ?_
  refine pg_70_137 (sk20 hs) ?_
  refine go_top (y := (1 : Int32)) (by simp [xm_up]) ?_
  refine pg_70_140 (fun _ => ?_) (fun hc => absurd hc (by decide))
  refine pg_70_150 ?_
  exact go_eq hR.symm (pg_70_151)
theorem ct_104v0 {n : Nat} {E : xm_E} {c : Nat × Nat} {fi : FI} {fl : FL} {r : xm_I → Nat → Option xm_I} {d : Nat} {p : Nat} {o : Nat} (hs : sh n E c r) (hp : p < n) (ho : o < n) (hf : fz n fi) (g0 : (fi (21, 18, 0) p) = 0) : xm_C E (d + 2) true 104 [xm_r (20, 0, 0), xm_i (nI p), xm_i (nI o)] (c, fi, fl, r) (.inl (some (xm_i (0 : Int32))), (c, (xm_up fi (20, 0, 0) 0 (2 : Int32)), fl, r)) := by
  have hn := sh_n hs
  suffices key : ∀ R : xm_O, ((.inl (some (xm_i (0 : Int32))), (c, (xm_up fi (20, 0, 0) 0 (2 : Int32)), fl, r)) : xm_O) = R → xm_G E (d + 1) true 104 0 [some (xm_r (20, 0, 0)), some (xm_i (nI p)), some (xm_i (nI o))] [] (c, fi, fl, r) R from go_inr (by decide) (Nat.le_of_ble_eq_true rfl) (key _ rfl)
  intro R hR
  refine pg_104_0 rfl ?_
  refine pg_104_1 rfl ?_
  refine pg_104_2 rfl ?_
  refine pg_104_3 (sk20 hs) (Nat.le_of_ble_eq_true rfl) (ct_99 (x := (nI p)) hs (fz_kp hf (kp_re [2000] fi) rfl rfl rfl)) ?_
  refine pg_104_6 (fun hc => absurd (nno_ok (n := n) (p := p) (by omega) (by omega)) hc) (fun _ => ?_)
  refine pg_104_9 rfl ?_
  refine pg_104_10 rfl ?_
  refine pg_104_11 (sk20 hs) (Nat.le_of_ble_eq_true rfl) (ct_99 (x := (nI o)) hs (fz_kp hf (kp_re [2000] fi) rfl rfl rfl)) ?_
  refine pg_104_14 (fun _ => ?_) (fun hc => absurd (nno_ok (n := n) (p := o) (by omega) (by omega)) hc)
  refine pg_104_21 rfl ?_
  refine pg_104_22 (sk20 hs) (sr20_18 hs) ?_
  refine pg_104_25 rfl ?_
  refine pg_104_26 (sk21_18 hs) (i := p) rfl (by omega) (by omega) ?_
  refine pg_104_27 (fun hc => absurd g0 hc) (fun _ => ?_)
  refine pg_104_30 ?_
  refine pg_104_31 ?_
  refine pg_104_53 (sk20 hs) ?_
  refine pg_104_56 rfl ?_
  refine pg_104_57 (sk20 hs) ?_
  refine go_top (y := (2 : Int32)) (by simp [xm_up]) ?_
  refine pg_104_60 (fun hc => absurd hc (by decide)) (fun _ => ?_)
  refine pg_104_63 ?_
  refine pg_104_64 ?_
  exact go_eq hR.symm (pg_104_78)
theorem ct_104v1 {n : Nat} {E : xm_E} {c : Nat × Nat} {fi : FI} {fl : FL} {r : xm_I → Nat → Option xm_I} {d : Nat} {p : Nat} {o : Nat} (hs : sh n E c r) (hp : p < n) (ho : o < n) (hf : fz n fi) (g0 : ¬ (fi (21, 18, 0) p) = 0) (g1 : (fi (21, 16, 0) ((6 * p) + o)) = 0) : xm_C E (d + 2) true 104 [xm_r (20, 0, 0), xm_i (nI p), xm_i (nI o)] (c, fi, fl, r) (.inl (some (xm_i (0 : Int32))), (c, (xm_up fi (20, 0, 0) 0 (3 : Int32)), fl, r)) := by
  have hn := sh_n hs
  suffices key : ∀ R : xm_O, ((.inl (some (xm_i (0 : Int32))), (c, (xm_up fi (20, 0, 0) 0 (3 : Int32)), fl, r)) : xm_O) = R → xm_G E (d + 1) true 104 0 [some (xm_r (20, 0, 0)), some (xm_i (nI p)), some (xm_i (nI o))] [] (c, fi, fl, r) R from go_inr (by decide) (Nat.le_of_ble_eq_true rfl) (key _ rfl)
  intro R hR
  refine pg_104_0 rfl ?_
  refine pg_104_1 rfl ?_
  refine pg_104_2 rfl ?_
  refine pg_104_3 (sk20 hs) (Nat.le_of_ble_eq_true rfl) (ct_99 (x := (nI p)) hs (fz_kp hf (kp_re [2000] fi) rfl rfl rfl)) ?_
  refine pg_104_6 (fun hc => absurd (nno_ok (n := n) (p := p) (by omega) (by omega)) hc) (fun _ => ?_)
  refine pg_104_9 rfl ?_
  refine pg_104_10 rfl ?_
  refine pg_104_11 (sk20 hs) (Nat.le_of_ble_eq_true rfl) (ct_99 (x := (nI o)) hs (fz_kp hf (kp_re [2000] fi) rfl rfl rfl)) ?_
  refine pg_104_14 (fun _ => ?_) (fun hc => absurd (nno_ok (n := n) (p := o) (by omega) (by omega)) hc)
  refine pg_104_21 rfl ?_
  refine pg_104_22 (sk20 hs) (sr20_18 hs) ?_
  refine pg_104_25 rfl ?_
  refine pg_104_26 (sk21_18 hs) (i := p) rfl (by omega) (by omega) ?_
  refine pg_104_27 (fun _ => ?_) (fun hc => absurd hc g0)
  refine pg_104_34 rfl ?_
  refine pg_104_35 (sk20 hs) (sr20_16 hs) ?_
  refine pg_104_38 ?_
  refine pg_104_40 rfl ?_
  refine pg_104_41 ?_
  refine go_top (y := nI (6 * p)) (nx_mul (rfl : (6 : Int32) = nI 6) rfl) ?_
  refine pg_104_42 rfl ?_
  refine pg_104_43 ?_
  refine go_top (y := nI ((6 * p) + o)) (nx_add rfl rfl) ?_
  refine pg_104_44 (sk21_16 hs) (i := ((6 * p) + o)) rfl (by omega) (by omega) ?_
  refine pg_104_45 (fun hc => absurd g1 hc) (fun _ => ?_)
  refine pg_104_48 ?_
  refine pg_104_49 ?_
  refine pg_104_53 (sk20 hs) ?_
  refine pg_104_56 rfl ?_
  refine pg_104_57 (sk20 hs) ?_
  refine go_top (y := (3 : Int32)) (by simp [xm_up]) ?_
  refine pg_104_60 (fun hc => absurd hc (by decide)) (fun _ => ?_)
  refine pg_104_63 ?_
  refine pg_104_64 ?_
  exact go_eq hR.symm (pg_104_78)
theorem ct_104v2 {n : Nat} {E : xm_E} {c : Nat × Nat} {fi : FI} {fl : FL} {r : xm_I → Nat → Option xm_I} {d : Nat} {p : Nat} {o : Nat} (hs : sh n E c r) (hp : p < n) (ho : o < n) (hf : fz n fi) (g0 : ¬ (fi (21, 18, 0) p) = 0) (g1 : ¬ (fi (21, 16, 0) ((6 * p) + o)) = 0) : xm_C E (d + 2) true 104 [xm_r (20, 0, 0), xm_i (nI p), xm_i (nI o)] (c, fi, fl, r) (.inl (some (xm_i (fi (21, 17, 0) ((6 * p) + o)))), (c, (xm_up fi (20, 0, 0) 0 (0 : Int32)), fl, r)) := by
  have hn := sh_n hs
  suffices key : ∀ R : xm_O, ((.inl (some (xm_i (fi (21, 17, 0) ((6 * p) + o)))), (c, (xm_up fi (20, 0, 0) 0 (0 : Int32)), fl, r)) : xm_O) = R → xm_G E (d + 1) true 104 0 [some (xm_r (20, 0, 0)), some (xm_i (nI p)), some (xm_i (nI o))] [] (c, fi, fl, r) R from go_inr (by decide) (Nat.le_of_ble_eq_true rfl) (key _ rfl)
  intro R hR
  refine pg_104_0 rfl ?_
  refine pg_104_1 rfl ?_
  refine pg_104_2 rfl ?_
  refine pg_104_3 (sk20 hs) (Nat.le_of_ble_eq_true rfl) (ct_99 (x := (nI p)) hs (fz_kp hf (kp_re [2000] fi) rfl rfl rfl)) ?_
  refine pg_104_6 (fun hc => absurd (nno_ok (n := n) (p := p) (by omega) (by omega)) hc) (fun _ => ?_)
  refine pg_104_9 rfl ?_
  refine pg_104_10 rfl ?_
  refine pg_104_11 (sk20 hs) (Nat.le_of_ble_eq_true rfl) (ct_99 (x := (nI o)) hs (fz_kp hf (kp_re [2000] fi) rfl rfl rfl)) ?_
  refine pg_104_14 (fun _ => ?_) (fun hc => absurd (nno_ok (n := n) (p := o) (by omega) (by omega)) hc)
  refine pg_104_21 rfl ?_
  refine pg_104_22 (sk20 hs) (sr20_18 hs) ?_
  refine pg_104_25 rfl ?_
  refine pg_104_26 (sk21_18 hs) (i := p) rfl (by omega) (by omega) ?_
  refine pg_104_27 (fun _ => ?_) (fun hc => absurd hc g0)
  refine pg_104_34 rfl ?_
  refine pg_104_35 (sk20 hs) (sr20_16 hs) ?_
  refine pg_104_38 ?_
  refine pg_104_40 rfl ?_
  refine pg_104_41 ?_
  refine go_top (y := nI (6 * p)) (nx_mul (rfl : (6 : Int32) = nI 6) rfl) ?_
  refine pg_104_42 rfl ?_
  refine pg_104_43 ?_
  refine go_top (y := nI ((6 * p) + o)) (nx_add rfl rfl) ?_
  refine pg_104_44 (sk21_16 hs) (i := ((6 * p) + o)) rfl (by omega) (by omega) ?_
  refine pg_104_45 (fun _ => ?_) (fun hc => absurd hc g1)
  refine pg_104_52 ?_
  refine pg_104_53 (sk20 hs) ?_
  refine pg_104_56 rfl ?_
  refine pg_104_57 (sk20 hs) ?_
  refine go_top (y := (0 : Int32)) (by simp [xm_up]) ?_
  refine pg_104_60 (fun _ => ?_) (fun hc => absurd (by decide) hc)
  refine pg_104_67 rfl ?_
  refine pg_104_68 (sk20 hs) (sr20_17 hs) ?_
  refine pg_104_71 ?_
  refine pg_104_73 rfl ?_
  refine pg_104_74 ?_
  refine go_top (y := nI (6 * p)) (nx_mul (rfl : (6 : Int32) = nI 6) rfl) ?_
  refine pg_104_75 rfl ?_
  refine pg_104_76 ?_
  refine go_top (y := nI ((6 * p) + o)) (nx_add rfl rfl) ?_
  refine pg_104_77 (Or.inl (sk21_17 hs)) (i := ((6 * p) + o)) rfl (by omega) (by omega) ?_
  refine go_top (y := (fi (21, 17, 0) ((6 * p) + o))) (by simp [xm_up]) ?_
  exact go_eq hR.symm (pg_104_78)
theorem ct_104j0 {n : Nat} {E : xm_E} {c : Nat × Nat} {fi : FI} {fl : FL} {r : xm_I → Nat → Option xm_I} {d : Nat} {p : Nat} {y : Int32} (hs : sh n E c r) (hp : p < n) (hf : fz n fi) (g0 : (bI (sp_99 n y)) = 0) (g1 : (fi (21, 18, 0) p) = 0) : xm_C E (d + 2) true 104 [xm_r (20, 0, 0), xm_i (nI p), xm_i y] (c, fi, fl, r) (.inl (some (xm_i (0 : Int32))), (c, (xm_up fi (20, 0, 0) 0 (2 : Int32)), fl, r)) := by
  have hn := sh_n hs
  suffices key : ∀ R : xm_O, ((.inl (some (xm_i (0 : Int32))), (c, (xm_up fi (20, 0, 0) 0 (2 : Int32)), fl, r)) : xm_O) = R → xm_G E (d + 1) true 104 0 [some (xm_r (20, 0, 0)), some (xm_i (nI p)), some (xm_i y)] [] (c, fi, fl, r) R from go_inr (by decide) (Nat.le_of_ble_eq_true rfl) (key _ rfl)
  intro R hR
  refine pg_104_0 rfl ?_
  refine pg_104_1 rfl ?_
  refine pg_104_2 rfl ?_
  refine pg_104_3 (sk20 hs) (Nat.le_of_ble_eq_true rfl) (ct_99 (x := (nI p)) hs (fz_kp hf (kp_re [2000] fi) rfl rfl rfl)) ?_
  refine pg_104_6 (fun hc => absurd (nno_ok (n := n) (p := p) (by omega) (by omega)) hc) (fun _ => ?_)
  refine pg_104_9 rfl ?_
  refine pg_104_10 rfl ?_
  refine pg_104_11 (sk20 hs) (Nat.le_of_ble_eq_true rfl) (ct_99 (x := y) hs (fz_kp hf (kp_re [2000] fi) rfl rfl rfl)) ?_
  refine pg_104_14 (fun _ => ?_) (fun hc => absurd g0 hc)
  refine pg_104_21 rfl ?_
  refine pg_104_22 (sk20 hs) (sr20_18 hs) ?_
  refine pg_104_25 rfl ?_
  refine pg_104_26 (sk21_18 hs) (i := p) rfl (by omega) (by omega) ?_
  refine pg_104_27 (fun hc => absurd g1 hc) (fun _ => ?_)
  refine pg_104_30 ?_
  refine pg_104_31 ?_
  refine pg_104_53 (sk20 hs) ?_
  refine pg_104_56 rfl ?_
  refine pg_104_57 (sk20 hs) ?_
  refine go_top (y := (2 : Int32)) (by simp [xm_up]) ?_
  refine pg_104_60 (fun hc => absurd hc (by decide)) (fun _ => ?_)
  refine pg_104_63 ?_
  refine pg_104_64 ?_
  exact go_eq hR.symm (pg_104_78)
theorem ct_104j1 {n : Nat} {E : xm_E} {c : Nat × Nat} {fi : FI} {fl : FL} {r : xm_I → Nat → Option xm_I} {d : Nat} {p : Nat} {y : Int32} (hs : sh n E c r) (hp : p < n) (hf : fz n fi) (g0 : ¬ (bI (sp_99 n y)) = 0) : xm_C E (d + 2) true 104 [xm_r (20, 0, 0), xm_i (nI p), xm_i y] (c, fi, fl, r) (.inl (some (xm_i (0 : Int32))), (c, (xm_up fi (20, 0, 0) 0 (1 : Int32)), fl, r)) := by
  have hn := sh_n hs
  suffices key : ∀ R : xm_O, ((.inl (some (xm_i (0 : Int32))), (c, (xm_up fi (20, 0, 0) 0 (1 : Int32)), fl, r)) : xm_O) = R → xm_G E (d + 1) true 104 0 [some (xm_r (20, 0, 0)), some (xm_i (nI p)), some (xm_i y)] [] (c, fi, fl, r) R from go_inr (by decide) (Nat.le_of_ble_eq_true rfl) (key _ rfl)
  intro R hR
  refine pg_104_0 rfl ?_
  refine pg_104_1 rfl ?_
  refine pg_104_2 rfl ?_
  refine pg_104_3 (sk20 hs) (Nat.le_of_ble_eq_true rfl) (ct_99 (x := (nI p)) hs (fz_kp hf (kp_re [2000] fi) rfl rfl rfl)) ?_
  refine pg_104_6 (fun hc => absurd (nno_ok (n := n) (p := p) (by omega) (by omega)) hc) (fun _ => ?_)
  refine pg_104_9 rfl ?_
  refine pg_104_10 rfl ?_
  refine pg_104_11 (sk20 hs) (Nat.le_of_ble_eq_true rfl) (ct_99 (x := y) hs (fz_kp hf (kp_re [2000] fi) rfl rfl rfl)) ?_
  refine pg_104_14 (fun hc => absurd hc g0) (fun _ => ?_)
  refine pg_104_17 ?_
  refine pg_104_18 ?_
  refine pg_104_53 (sk20 hs) ?_
  refine pg_104_56 rfl ?_
  refine pg_104_57 (sk20 hs) ?_
  refine go_top (y := (1 : Int32)) (by simp [xm_up]) ?_
  refine pg_104_60 (fun hc => absurd hc (by decide)) (fun _ => ?_)
  refine pg_104_63 ?_
  refine pg_104_64 ?_
  exact go_eq hR.symm (pg_104_78)
theorem ct_104i0 {n : Nat} {E : xm_E} {c : Nat × Nat} {fi : FI} {fl : FL} {r : xm_I → Nat → Option xm_I} {d : Nat} {x : Int32} {y : Int32} (hs : sh n E c r) (hf : fz n fi) (g0 : (bI (sp_99 n x)) = 0) (g1 : ¬ (bI (sp_99 n y)) = 0) : xm_C E (d + 2) true 104 [xm_r (20, 0, 0), xm_i x, xm_i y] (c, fi, fl, r) (.inl (some (xm_i (0 : Int32))), (c, (xm_up fi (20, 0, 0) 0 (1 : Int32)), fl, r)) := by
  have hn := sh_n hs
  suffices key : ∀ R : xm_O, ((.inl (some (xm_i (0 : Int32))), (c, (xm_up fi (20, 0, 0) 0 (1 : Int32)), fl, r)) : xm_O) = R → xm_G E (d + 1) true 104 0 [some (xm_r (20, 0, 0)), some (xm_i x), some (xm_i y)] [] (c, fi, fl, r) R from go_inr (by decide) (Nat.le_of_ble_eq_true rfl) (key _ rfl)
  intro R hR
  refine pg_104_0 rfl ?_
  refine pg_104_1 rfl ?_
  refine pg_104_2 rfl ?_
  refine pg_104_3 (sk20 hs) (Nat.le_of_ble_eq_true rfl) (ct_99 (x := x) hs (fz_kp hf (kp_re [2000] fi) rfl rfl rfl)) ?_
  refine pg_104_6 (fun hc => absurd g0 hc) (fun _ => ?_)
  refine pg_104_9 rfl ?_
  refine pg_104_10 rfl ?_
  refine pg_104_11 (sk20 hs) (Nat.le_of_ble_eq_true rfl) (ct_99 (x := y) hs (fz_kp hf (kp_re [2000] fi) rfl rfl rfl)) ?_
  refine pg_104_14 (fun hc => absurd hc g1) (fun _ => ?_)
  refine pg_104_17 ?_
  refine pg_104_18 ?_
  refine pg_104_53 (sk20 hs) ?_
  refine pg_104_56 rfl ?_
  refine pg_104_57 (sk20 hs) ?_
  refine go_top (y := (1 : Int32)) (by simp [xm_up]) ?_
  refine pg_104_60 (fun hc => absurd hc (by decide)) (fun _ => ?_)
  refine pg_104_63 ?_
  refine pg_104_64 ?_
  exact go_eq hR.symm (pg_104_78)
theorem ct_104i1 {n : Nat} {E : xm_E} {c : Nat × Nat} {fi : FI} {fl : FL} {r : xm_I → Nat → Option xm_I} {d : Nat} {x : Int32} {y : Int32} (hs : sh n E c r) (hf : fz n fi) (g0 : ¬ (bI (sp_99 n x)) = 0) : xm_C E (d + 2) true 104 [xm_r (20, 0, 0), xm_i x, xm_i y] (c, fi, fl, r) (.inl (some (xm_i (0 : Int32))), (c, (xm_up fi (20, 0, 0) 0 (1 : Int32)), fl, r)) := by
  have hn := sh_n hs
  suffices key : ∀ R : xm_O, ((.inl (some (xm_i (0 : Int32))), (c, (xm_up fi (20, 0, 0) 0 (1 : Int32)), fl, r)) : xm_O) = R → xm_G E (d + 1) true 104 0 [some (xm_r (20, 0, 0)), some (xm_i x), some (xm_i y)] [] (c, fi, fl, r) R from go_inr (by decide) (Nat.le_of_ble_eq_true rfl) (key _ rfl)
  intro R hR
  refine pg_104_0 rfl ?_
  refine pg_104_1 rfl ?_
  refine pg_104_2 rfl ?_
  refine pg_104_3 (sk20 hs) (Nat.le_of_ble_eq_true rfl) (ct_99 (x := x) hs (fz_kp hf (kp_re [2000] fi) rfl rfl rfl)) ?_
  refine pg_104_6 (fun _ => ?_) (fun hc => absurd hc g0)
  refine pg_104_17 ?_
  refine pg_104_18 ?_
  refine pg_104_53 (sk20 hs) ?_
  refine pg_104_56 rfl ?_
  refine pg_104_57 (sk20 hs) ?_
  refine go_top (y := (1 : Int32)) (by simp [xm_up]) ?_
  refine pg_104_60 (fun hc => absurd hc (by decide)) (fun _ => ?_)
  refine pg_104_63 ?_
  refine pg_104_64 ?_
  exact go_eq hR.symm (pg_104_78)
theorem ct_106v0 {n : Nat} {E : xm_E} {c : Nat × Nat} {fi : FI} {fl : FL} {r : xm_I → Nat → Option xm_I} {d : Nat} {p : Nat} {o : Nat} (hs : sh n E c r) (hp : p < n) (ho : o < n) (hf : fz n fi) (g0 : (fi (21, 11, 0) p) = 0) (g1 : (fi (21, 14, 0) ((6 * p) + o)) = 0) : xm_C E (d + 2) true 106 [xm_r (20, 0, 0), xm_i (nI p), xm_i (nI o)] (c, fi, fl, r) (.inl (some (xm_i (0 : Int32))), (c, (xm_up fi (20, 0, 0) 0 (0 : Int32)), fl, r)) := by
  have hn := sh_n hs
  suffices key : ∀ R : xm_O, ((.inl (some (xm_i (0 : Int32))), (c, (xm_up fi (20, 0, 0) 0 (0 : Int32)), fl, r)) : xm_O) = R → xm_G E (d + 1) true 106 0 [some (xm_r (20, 0, 0)), some (xm_i (nI p)), some (xm_i (nI o))] [] (c, fi, fl, r) R from go_inr (by decide) (Nat.le_of_ble_eq_true rfl) (key _ rfl)
  intro R hR
  refine pg_106_0 rfl ?_
  refine pg_106_1 rfl ?_
  refine pg_106_2 rfl ?_
  refine pg_106_3 (sk20 hs) (Nat.le_of_ble_eq_true rfl) (ct_99 (x := (nI p)) hs (fz_kp hf (kp_re [2000] fi) rfl rfl rfl)) ?_
  refine pg_106_6 (fun hc => absurd (nno_ok (n := n) (p := p) (by omega) (by omega)) hc) (fun _ => ?_)
  refine pg_106_9 rfl ?_
  refine pg_106_10 rfl ?_
  refine pg_106_11 (sk20 hs) (Nat.le_of_ble_eq_true rfl) (ct_99 (x := (nI o)) hs (fz_kp hf (kp_re [2000] fi) rfl rfl rfl)) ?_
  refine pg_106_14 (fun _ => ?_) (fun hc => absurd (nno_ok (n := n) (p := o) (by omega) (by omega)) hc)
  refine pg_106_21 rfl ?_
  refine pg_106_22 (sk20 hs) (sr20_11 hs) ?_
  refine pg_106_25 rfl ?_
  refine pg_106_26 (sk21_11 hs) (i := p) rfl (by omega) (by omega) ?_
  refine pg_106_27 (fun _ => ?_) (fun hc => absurd g0 hc)
  refine pg_106_34 ?_
  refine pg_106_35 (sk20 hs) ?_
  refine pg_106_38 rfl ?_
  refine pg_106_39 (sk20 hs) ?_
  refine go_top (y := (0 : Int32)) (by simp [xm_up]) ?_
  refine pg_106_42 (fun hc => absurd (by decide) hc) (fun _ => ?_)
  refine pg_106_45 rfl ?_
  refine pg_106_46 (sk20 hs) (sr20_14 hs) ?_
  refine pg_106_49 ?_
  refine pg_106_51 rfl ?_
  refine pg_106_52 ?_
  refine go_top (y := nI (6 * p)) (nx_mul (rfl : (6 : Int32) = nI 6) rfl) ?_
  refine pg_106_53 rfl ?_
  refine pg_106_54 ?_
  refine go_top (y := nI ((6 * p) + o)) (nx_add rfl rfl) ?_
  refine pg_106_55 (sk21_14 hs) (i := ((6 * p) + o)) rfl (by omega) (by omega) ?_
  refine go_top (y := (fi (21, 14, 0) ((6 * p) + o))) (by simp [xm_up]) ?_
  refine pg_106_56 (fun _ => ?_) (fun hc => absurd g1 hc)
  refine pg_106_63 ?_
  exact go_eq hR.symm (pg_106_64 (Or.inl rfl))
theorem ct_106v1 {n : Nat} {E : xm_E} {c : Nat × Nat} {fi : FI} {fl : FL} {r : xm_I → Nat → Option xm_I} {d : Nat} {p : Nat} {o : Nat} (hs : sh n E c r) (hp : p < n) (ho : o < n) (hf : fz n fi) (g0 : (fi (21, 11, 0) p) = 0) (g1 : ¬ (fi (21, 14, 0) ((6 * p) + o)) = 0) : xm_C E (d + 2) true 106 [xm_r (20, 0, 0), xm_i (nI p), xm_i (nI o)] (c, fi, fl, r) (.inl (some (xm_i (1 : Int32))), (c, (xm_up fi (20, 0, 0) 0 (0 : Int32)), fl, r)) := by
  have hn := sh_n hs
  suffices key : ∀ R : xm_O, ((.inl (some (xm_i (1 : Int32))), (c, (xm_up fi (20, 0, 0) 0 (0 : Int32)), fl, r)) : xm_O) = R → xm_G E (d + 1) true 106 0 [some (xm_r (20, 0, 0)), some (xm_i (nI p)), some (xm_i (nI o))] [] (c, fi, fl, r) R from go_inr (by decide) (Nat.le_of_ble_eq_true rfl) (key _ rfl)
  intro R hR
  refine pg_106_0 rfl ?_
  refine pg_106_1 rfl ?_
  refine pg_106_2 rfl ?_
  refine pg_106_3 (sk20 hs) (Nat.le_of_ble_eq_true rfl) (ct_99 (x := (nI p)) hs (fz_kp hf (kp_re [2000] fi) rfl rfl rfl)) ?_
  refine pg_106_6 (fun hc => absurd (nno_ok (n := n) (p := p) (by omega) (by omega)) hc) (fun _ => ?_)
  refine pg_106_9 rfl ?_
  refine pg_106_10 rfl ?_
  refine pg_106_11 (sk20 hs) (Nat.le_of_ble_eq_true rfl) (ct_99 (x := (nI o)) hs (fz_kp hf (kp_re [2000] fi) rfl rfl rfl)) ?_
  refine pg_106_14 (fun _ => ?_) (fun hc => absurd (nno_ok (n := n) (p := o) (by omega) (by omega)) hc)
  refine pg_106_21 rfl ?_
  refine pg_106_22 (sk20 hs) (sr20_11 hs) ?_
  refine pg_106_25 rfl ?_
  refine pg_106_26 (sk21_11 hs) (i := p) rfl (by omega) (by omega) ?_
  refine pg_106_27 (fun _ => ?_) (fun hc => absurd g0 hc)
  refine pg_106_34 ?_
  refine pg_106_35 (sk20 hs) ?_
  refine pg_106_38 rfl ?_
  refine pg_106_39 (sk20 hs) ?_
  refine go_top (y := (0 : Int32)) (by simp [xm_up]) ?_
  refine pg_106_42 (fun hc => absurd (by decide) hc) (fun _ => ?_)
  refine pg_106_45 rfl ?_
  refine pg_106_46 (sk20 hs) (sr20_14 hs) ?_
  refine pg_106_49 ?_
  refine pg_106_51 rfl ?_
  refine pg_106_52 ?_
  refine go_top (y := nI (6 * p)) (nx_mul (rfl : (6 : Int32) = nI 6) rfl) ?_
  refine pg_106_53 rfl ?_
  refine pg_106_54 ?_
  refine go_top (y := nI ((6 * p) + o)) (nx_add rfl rfl) ?_
  refine pg_106_55 (sk21_14 hs) (i := ((6 * p) + o)) rfl (by omega) (by omega) ?_
  refine go_top (y := (fi (21, 14, 0) ((6 * p) + o))) (by simp [xm_up]) ?_
  refine pg_106_56 (fun hc => absurd hc g1) (fun _ => ?_)
  refine pg_106_59 ?_
  refine pg_106_60 ?_
  exact go_eq hR.symm (pg_106_64 (Or.inr rfl))
theorem ct_106v2 {n : Nat} {E : xm_E} {c : Nat × Nat} {fi : FI} {fl : FL} {r : xm_I → Nat → Option xm_I} {d : Nat} {p : Nat} {o : Nat} (hs : sh n E c r) (hp : p < n) (ho : o < n) (hf : fz n fi) (g0 : ¬ (fi (21, 11, 0) p) = 0) : xm_C E (d + 2) true 106 [xm_r (20, 0, 0), xm_i (nI p), xm_i (nI o)] (c, fi, fl, r) (.inl (some (xm_i (0 : Int32))), (c, (xm_up fi (20, 0, 0) 0 (2 : Int32)), fl, r)) := by
  have hn := sh_n hs
  suffices key : ∀ R : xm_O, ((.inl (some (xm_i (0 : Int32))), (c, (xm_up fi (20, 0, 0) 0 (2 : Int32)), fl, r)) : xm_O) = R → xm_G E (d + 1) true 106 0 [some (xm_r (20, 0, 0)), some (xm_i (nI p)), some (xm_i (nI o))] [] (c, fi, fl, r) R from go_inr (by decide) (Nat.le_of_ble_eq_true rfl) (key _ rfl)
  intro R hR
  refine pg_106_0 rfl ?_
  refine pg_106_1 rfl ?_
  refine pg_106_2 rfl ?_
  refine pg_106_3 (sk20 hs) (Nat.le_of_ble_eq_true rfl) (ct_99 (x := (nI p)) hs (fz_kp hf (kp_re [2000] fi) rfl rfl rfl)) ?_
  refine pg_106_6 (fun hc => absurd (nno_ok (n := n) (p := p) (by omega) (by omega)) hc) (fun _ => ?_)
  refine pg_106_9 rfl ?_
  refine pg_106_10 rfl ?_
  refine pg_106_11 (sk20 hs) (Nat.le_of_ble_eq_true rfl) (ct_99 (x := (nI o)) hs (fz_kp hf (kp_re [2000] fi) rfl rfl rfl)) ?_
  refine pg_106_14 (fun _ => ?_) (fun hc => absurd (nno_ok (n := n) (p := o) (by omega) (by omega)) hc)
  refine pg_106_21 rfl ?_
  refine pg_106_22 (sk20 hs) (sr20_11 hs) ?_
  refine pg_106_25 rfl ?_
  refine pg_106_26 (sk21_11 hs) (i := p) rfl (by omega) (by omega) ?_
  refine pg_106_27 (fun hc => absurd hc g0) (fun _ => ?_)
  refine pg_106_30 ?_
  refine pg_106_31 ?_
  refine pg_106_35 (sk20 hs) ?_
  refine pg_106_38 rfl ?_
  refine pg_106_39 (sk20 hs) ?_
  refine go_top (y := (2 : Int32)) (by simp [xm_up]) ?_
  refine pg_106_42 (fun _ => ?_) (fun hc => absurd hc (by decide))
  refine pg_106_63 ?_
  exact go_eq hR.symm (pg_106_64 (Or.inl rfl))
theorem ct_106j0 {n : Nat} {E : xm_E} {c : Nat × Nat} {fi : FI} {fl : FL} {r : xm_I → Nat → Option xm_I} {d : Nat} {p : Nat} {y : Int32} (hs : sh n E c r) (hp : p < n) (hf : fz n fi) (g0 : (bI (sp_99 n y)) = 0) (g1 : ¬ (fi (21, 11, 0) p) = 0) : xm_C E (d + 2) true 106 [xm_r (20, 0, 0), xm_i (nI p), xm_i y] (c, fi, fl, r) (.inl (some (xm_i (0 : Int32))), (c, (xm_up fi (20, 0, 0) 0 (2 : Int32)), fl, r)) := by
  have hn := sh_n hs
  suffices key : ∀ R : xm_O, ((.inl (some (xm_i (0 : Int32))), (c, (xm_up fi (20, 0, 0) 0 (2 : Int32)), fl, r)) : xm_O) = R → xm_G E (d + 1) true 106 0 [some (xm_r (20, 0, 0)), some (xm_i (nI p)), some (xm_i y)] [] (c, fi, fl, r) R from go_inr (by decide) (Nat.le_of_ble_eq_true rfl) (key _ rfl)
  intro R hR
  refine pg_106_0 rfl ?_
  refine pg_106_1 rfl ?_
  refine pg_106_2 rfl ?_
  refine pg_106_3 (sk20 hs) (Nat.le_of_ble_eq_true rfl) (ct_99 (x := (nI p)) hs (fz_kp hf (kp_re [2000] fi) rfl rfl rfl)) ?_
  refine pg_106_6 (fun hc => absurd (nno_ok (n := n) (p := p) (by omega) (by omega)) hc) (fun _ => ?_)
  refine pg_106_9 rfl ?_
  refine pg_106_10 rfl ?_
  refine pg_106_11 (sk20 hs) (Nat.le_of_ble_eq_true rfl) (ct_99 (x := y) hs (fz_kp hf (kp_re [2000] fi) rfl rfl rfl)) ?_
  refine pg_106_14 (fun _ => ?_) (fun hc => absurd g0 hc)
  refine pg_106_21 rfl ?_
  refine pg_106_22 (sk20 hs) (sr20_11 hs) ?_
  refine pg_106_25 rfl ?_
  refine pg_106_26 (sk21_11 hs) (i := p) rfl (by omega) (by omega) ?_
  refine pg_106_27 (fun hc => absurd hc g1) (fun _ => ?_)
  refine pg_106_30 ?_
  refine pg_106_31 ?_
  refine pg_106_35 (sk20 hs) ?_
  refine pg_106_38 rfl ?_
  refine pg_106_39 (sk20 hs) ?_
  refine go_top (y := (2 : Int32)) (by simp [xm_up]) ?_
  refine pg_106_42 (fun _ => ?_) (fun hc => absurd hc (by decide))
  refine pg_106_63 ?_
  exact go_eq hR.symm (pg_106_64 (Or.inl rfl))
theorem ct_106j1 {n : Nat} {E : xm_E} {c : Nat × Nat} {fi : FI} {fl : FL} {r : xm_I → Nat → Option xm_I} {d : Nat} {p : Nat} {y : Int32} (hs : sh n E c r) (hp : p < n) (hf : fz n fi) (g0 : ¬ (bI (sp_99 n y)) = 0) : xm_C E (d + 2) true 106 [xm_r (20, 0, 0), xm_i (nI p), xm_i y] (c, fi, fl, r) (.inl (some (xm_i (0 : Int32))), (c, (xm_up fi (20, 0, 0) 0 (1 : Int32)), fl, r)) := by
  have hn := sh_n hs
  suffices key : ∀ R : xm_O, ((.inl (some (xm_i (0 : Int32))), (c, (xm_up fi (20, 0, 0) 0 (1 : Int32)), fl, r)) : xm_O) = R → xm_G E (d + 1) true 106 0 [some (xm_r (20, 0, 0)), some (xm_i (nI p)), some (xm_i y)] [] (c, fi, fl, r) R from go_inr (by decide) (Nat.le_of_ble_eq_true rfl) (key _ rfl)
  intro R hR
  refine pg_106_0 rfl ?_
  refine pg_106_1 rfl ?_
  refine pg_106_2 rfl ?_
  refine pg_106_3 (sk20 hs) (Nat.le_of_ble_eq_true rfl) (ct_99 (x := (nI p)) hs (fz_kp hf (kp_re [2000] fi) rfl rfl rfl)) ?_
  refine pg_106_6 (fun hc => absurd (nno_ok (n := n) (p := p) (by omega) (by omega)) hc) (fun _ => ?_)
  refine pg_106_9 rfl ?_
  refine pg_106_10 rfl ?_
  refine pg_106_11 (sk20 hs) (Nat.le_of_ble_eq_true rfl) (ct_99 (x := y) hs (fz_kp hf (kp_re [2000] fi) rfl rfl rfl)) ?_
  refine pg_106_14 (fun hc => absurd hc g0) (fun _ => ?_)
  refine pg_106_17 ?_
  refine pg_106_18 ?_
  refine pg_106_35 (sk20 hs) ?_
  refine pg_106_38 rfl ?_
  refine pg_106_39 (sk20 hs) ?_
  refine go_top (y := (1 : Int32)) (by simp [xm_up]) ?_
  refine pg_106_42 (fun _ => ?_) (fun hc => absurd hc (by decide))
  refine pg_106_63 ?_
  exact go_eq hR.symm (pg_106_64 (Or.inl rfl))
theorem ct_106i0 {n : Nat} {E : xm_E} {c : Nat × Nat} {fi : FI} {fl : FL} {r : xm_I → Nat → Option xm_I} {d : Nat} {x : Int32} {y : Int32} (hs : sh n E c r) (hf : fz n fi) (g0 : (bI (sp_99 n x)) = 0) (g1 : ¬ (bI (sp_99 n y)) = 0) : xm_C E (d + 2) true 106 [xm_r (20, 0, 0), xm_i x, xm_i y] (c, fi, fl, r) (.inl (some (xm_i (0 : Int32))), (c, (xm_up fi (20, 0, 0) 0 (1 : Int32)), fl, r)) := by
  have hn := sh_n hs
  suffices key : ∀ R : xm_O, ((.inl (some (xm_i (0 : Int32))), (c, (xm_up fi (20, 0, 0) 0 (1 : Int32)), fl, r)) : xm_O) = R → xm_G E (d + 1) true 106 0 [some (xm_r (20, 0, 0)), some (xm_i x), some (xm_i y)] [] (c, fi, fl, r) R from go_inr (by decide) (Nat.le_of_ble_eq_true rfl) (key _ rfl)
  intro R hR
  refine pg_106_0 rfl ?_
  refine pg_106_1 rfl ?_
  refine pg_106_2 rfl ?_
  refine pg_106_3 (sk20 hs) (Nat.le_of_ble_eq_true rfl) (ct_99 (x := x) hs (fz_kp hf (kp_re [2000] fi) rfl rfl rfl)) ?_
  refine pg_106_6 (fun hc => absurd g0 hc) (fun _ => ?_)
  refine pg_106_9 rfl ?_
  refine pg_106_10 rfl ?_
  refine pg_106_11 (sk20 hs) (Nat.le_of_ble_eq_true rfl) (ct_99 (x := y) hs (fz_kp hf (kp_re [2000] fi) rfl rfl rfl)) ?_
  refine pg_106_14 (fun hc => absurd hc g1) (fun _ => ?_)
  refine pg_106_17 ?_
  refine pg_106_18 ?_
  refine pg_106_35 (sk20 hs) ?_
  refine pg_106_38 rfl ?_
  refine pg_106_39 (sk20 hs) ?_
  refine go_top (y := (1 : Int32)) (by simp [xm_up]) ?_
  refine pg_106_42 (fun _ => ?_) (fun hc => absurd hc (by decide))
  refine pg_106_63 ?_
  exact go_eq hR.symm (pg_106_64 (Or.inl rfl))
theorem ct_106i1 {n : Nat} {E : xm_E} {c : Nat × Nat} {fi : FI} {fl : FL} {r : xm_I → Nat → Option xm_I} {d : Nat} {x : Int32} {y : Int32} (hs : sh n E c r) (hf : fz n fi) (g0 : ¬ (bI (sp_99 n x)) = 0) : xm_C E (d + 2) true 106 [xm_r (20, 0, 0), xm_i x, xm_i y] (c, fi, fl, r) (.inl (some (xm_i (0 : Int32))), (c, (xm_up fi (20, 0, 0) 0 (1 : Int32)), fl, r)) := by
  have hn := sh_n hs
  suffices key : ∀ R : xm_O, ((.inl (some (xm_i (0 : Int32))), (c, (xm_up fi (20, 0, 0) 0 (1 : Int32)), fl, r)) : xm_O) = R → xm_G E (d + 1) true 106 0 [some (xm_r (20, 0, 0)), some (xm_i x), some (xm_i y)] [] (c, fi, fl, r) R from go_inr (by decide) (Nat.le_of_ble_eq_true rfl) (key _ rfl)
  intro R hR
  refine pg_106_0 rfl ?_
  refine pg_106_1 rfl ?_
  refine pg_106_2 rfl ?_
  refine pg_106_3 (sk20 hs) (Nat.le_of_ble_eq_true rfl) (ct_99 (x := x) hs (fz_kp hf (kp_re [2000] fi) rfl rfl rfl)) ?_
  refine pg_106_6 (fun _ => ?_) (fun hc => absurd hc g0)
  refine pg_106_17 ?_
  refine pg_106_18 ?_
  refine pg_106_35 (sk20 hs) ?_
  refine pg_106_38 rfl ?_
  refine pg_106_39 (sk20 hs) ?_
  refine go_top (y := (1 : Int32)) (by simp [xm_up]) ?_
  refine pg_106_42 (fun _ => ?_) (fun hc => absurd hc (by decide))
  refine pg_106_63 ?_
  exact go_eq hR.symm (pg_106_64 (Or.inl rfl))
theorem ct_107v0 {n : Nat} {E : xm_E} {c : Nat × Nat} {fi : FI} {fl : FL} {r : xm_I → Nat → Option xm_I} {d : Nat} {p : Nat} {o : Nat} (hs : sh n E c r) (hp : p < n) (ho : o < n) (hf : fz n fi) (g0 : (fi (21, 11, 0) p) = 0) : xm_C E (d + 2) true 107 [xm_r (20, 0, 0), xm_i (nI p), xm_i (nI o)] (c, fi, fl, r) (.inl (some (xm_i (fi (21, 15, 0) ((6 * p) + o)))), (c, (xm_up fi (20, 0, 0) 0 (0 : Int32)), fl, r)) := by
  have hn := sh_n hs
  suffices key : ∀ R : xm_O, ((.inl (some (xm_i (fi (21, 15, 0) ((6 * p) + o)))), (c, (xm_up fi (20, 0, 0) 0 (0 : Int32)), fl, r)) : xm_O) = R → xm_G E (d + 1) true 107 0 [some (xm_r (20, 0, 0)), some (xm_i (nI p)), some (xm_i (nI o))] [] (c, fi, fl, r) R from go_inr (by decide) (Nat.le_of_ble_eq_true rfl) (key _ rfl)
  intro R hR
  refine pg_107_0 rfl ?_
  refine pg_107_1 rfl ?_
  refine pg_107_2 rfl ?_
  refine pg_107_3 (sk20 hs) (Nat.le_of_ble_eq_true rfl) (ct_99 (x := (nI p)) hs (fz_kp hf (kp_re [2000] fi) rfl rfl rfl)) ?_
  refine pg_107_6 (fun hc => absurd (nno_ok (n := n) (p := p) (by omega) (by omega)) hc) (fun _ => ?_)
  refine pg_107_9 rfl ?_
  refine pg_107_10 rfl ?_
  refine pg_107_11 (sk20 hs) (Nat.le_of_ble_eq_true rfl) (ct_99 (x := (nI o)) hs (fz_kp hf (kp_re [2000] fi) rfl rfl rfl)) ?_
  refine pg_107_14 (fun _ => ?_) (fun hc => absurd (nno_ok (n := n) (p := o) (by omega) (by omega)) hc)
  refine pg_107_21 rfl ?_
  refine pg_107_22 (sk20 hs) (sr20_11 hs) ?_
  refine pg_107_25 rfl ?_
  refine pg_107_26 (sk21_11 hs) (i := p) rfl (by omega) (by omega) ?_
  refine pg_107_27 (fun _ => ?_) (fun hc => absurd g0 hc)
  refine pg_107_34 ?_
  refine pg_107_35 (sk20 hs) ?_
  refine pg_107_38 rfl ?_
  refine pg_107_39 (sk20 hs) ?_
  refine go_top (y := (0 : Int32)) (by simp [xm_up]) ?_
  refine pg_107_42 (fun _ => ?_) (fun hc => absurd (by decide) hc)
  refine pg_107_49 rfl ?_
  refine pg_107_50 (sk20 hs) (sr20_15 hs) ?_
  refine pg_107_53 ?_
  refine pg_107_55 rfl ?_
  refine pg_107_56 ?_
  refine go_top (y := nI (6 * p)) (nx_mul (rfl : (6 : Int32) = nI 6) rfl) ?_
  refine pg_107_57 rfl ?_
  refine pg_107_58 ?_
  refine go_top (y := nI ((6 * p) + o)) (nx_add rfl rfl) ?_
  refine pg_107_59 (Or.inl (sk21_15 hs)) (i := ((6 * p) + o)) rfl (by omega) (by omega) ?_
  refine go_top (y := (fi (21, 15, 0) ((6 * p) + o))) (by simp [xm_up]) ?_
  exact go_eq hR.symm (pg_107_60)
theorem ct_107v1 {n : Nat} {E : xm_E} {c : Nat × Nat} {fi : FI} {fl : FL} {r : xm_I → Nat → Option xm_I} {d : Nat} {p : Nat} {o : Nat} (hs : sh n E c r) (hp : p < n) (ho : o < n) (hf : fz n fi) (g0 : ¬ (fi (21, 11, 0) p) = 0) : xm_C E (d + 2) true 107 [xm_r (20, 0, 0), xm_i (nI p), xm_i (nI o)] (c, fi, fl, r) (.inl (some (xm_i (0 : Int32))), (c, (xm_up fi (20, 0, 0) 0 (2 : Int32)), fl, r)) := by
  have hn := sh_n hs
  suffices key : ∀ R : xm_O, ((.inl (some (xm_i (0 : Int32))), (c, (xm_up fi (20, 0, 0) 0 (2 : Int32)), fl, r)) : xm_O) = R → xm_G E (d + 1) true 107 0 [some (xm_r (20, 0, 0)), some (xm_i (nI p)), some (xm_i (nI o))] [] (c, fi, fl, r) R from go_inr (by decide) (Nat.le_of_ble_eq_true rfl) (key _ rfl)
  intro R hR
  refine pg_107_0 rfl ?_
  refine pg_107_1 rfl ?_
  refine pg_107_2 rfl ?_
  refine pg_107_3 (sk20 hs) (Nat.le_of_ble_eq_true rfl) (ct_99 (x := (nI p)) hs (fz_kp hf (kp_re [2000] fi) rfl rfl rfl)) ?_
  refine pg_107_6 (fun hc => absurd (nno_ok (n := n) (p := p) (by omega) (by omega)) hc) (fun _ => ?_)
  refine pg_107_9 rfl ?_
  refine pg_107_10 rfl ?_
  refine pg_107_11 (sk20 hs) (Nat.le_of_ble_eq_true rfl) (ct_99 (x := (nI o)) hs (fz_kp hf (kp_re [2000] fi) rfl rfl rfl)) ?_
  refine pg_107_14 (fun _ => ?_) (fun hc => absurd (nno_ok (n := n) (p := o) (by omega) (by omega)) hc)
  refine pg_107_21 rfl ?_
  refine pg_107_22 (sk20 hs) (sr20_11 hs) ?_
  refine pg_107_25 rfl ?_
  refine pg_107_26 (sk21_11 hs) (i := p) rfl (by omega) (by omega) ?_
  refine pg_107_27 (fun hc => absurd hc g0) (fun _ => ?_)
  refine pg_107_30 ?_
  refine pg_107_31 ?_
  refine pg_107_35 (sk20 hs) ?_
  refine pg_107_38 rfl ?_
  refine pg_107_39 (sk20 hs) ?_
  refine go_top (y := (2 : Int32)) (by simp [xm_up]) ?_
  refine pg_107_42 (fun hc => absurd hc (by decide)) (fun _ => ?_)
  refine pg_107_45 ?_
  refine pg_107_46 ?_
  exact go_eq hR.symm (pg_107_60)
theorem ct_107j0 {n : Nat} {E : xm_E} {c : Nat × Nat} {fi : FI} {fl : FL} {r : xm_I → Nat → Option xm_I} {d : Nat} {p : Nat} {y : Int32} (hs : sh n E c r) (hp : p < n) (hf : fz n fi) (g0 : (bI (sp_99 n y)) = 0) (g1 : ¬ (fi (21, 11, 0) p) = 0) : xm_C E (d + 2) true 107 [xm_r (20, 0, 0), xm_i (nI p), xm_i y] (c, fi, fl, r) (.inl (some (xm_i (0 : Int32))), (c, (xm_up fi (20, 0, 0) 0 (2 : Int32)), fl, r)) := by
  have hn := sh_n hs
  suffices key : ∀ R : xm_O, ((.inl (some (xm_i (0 : Int32))), (c, (xm_up fi (20, 0, 0) 0 (2 : Int32)), fl, r)) : xm_O) = R → xm_G E (d + 1) true 107 0 [some (xm_r (20, 0, 0)), some (xm_i (nI p)), some (xm_i y)] [] (c, fi, fl, r) R from go_inr (by decide) (Nat.le_of_ble_eq_true rfl) (key _ rfl)
  intro R hR
  refine pg_107_0 rfl ?_
  refine pg_107_1 rfl ?_
  refine pg_107_2 rfl ?_
  refine pg_107_3 (sk20 hs) (Nat.le_of_ble_eq_true rfl) (ct_99 (x := (nI p)) hs (fz_kp hf (kp_re [2000] fi) rfl rfl rfl)) ?_
  refine pg_107_6 (fun hc => absurd (nno_ok (n := n) (p := p) (by omega) (by omega)) hc) (fun _ => ?_)
  refine pg_107_9 rfl ?_
  refine pg_107_10 rfl ?_
  refine pg_107_11 (sk20 hs) (Nat.le_of_ble_eq_true rfl) (ct_99 (x := y) hs (fz_kp hf (kp_re [2000] fi) rfl rfl rfl)) ?_
  refine pg_107_14 (fun _ => ?_) (fun hc => absurd g0 hc)
  refine pg_107_21 rfl ?_
  refine pg_107_22 (sk20 hs) (sr20_11 hs) ?_
  refine pg_107_25 rfl ?_
  refine pg_107_26 (sk21_11 hs) (i := p) rfl (by omega) (by omega) ?_
  refine pg_107_27 (fun hc => absurd hc g1) (fun _ => ?_)
  refine pg_107_30 ?_
  refine pg_107_31 ?_
  refine pg_107_35 (sk20 hs) ?_
  refine pg_107_38 rfl ?_
  refine pg_107_39 (sk20 hs) ?_
  refine go_top (y := (2 : Int32)) (by simp [xm_up]) ?_
  refine pg_107_42 (fun hc => absurd hc (by decide)) (fun _ => ?_)
  refine pg_107_45 ?_
  refine pg_107_46 ?_
  exact go_eq hR.symm (pg_107_60)
theorem ct_107j1 {n : Nat} {E : xm_E} {c : Nat × Nat} {fi : FI} {fl : FL} {r : xm_I → Nat → Option xm_I} {d : Nat} {p : Nat} {y : Int32} (hs : sh n E c r) (hp : p < n) (hf : fz n fi) (g0 : ¬ (bI (sp_99 n y)) = 0) : xm_C E (d + 2) true 107 [xm_r (20, 0, 0), xm_i (nI p), xm_i y] (c, fi, fl, r) (.inl (some (xm_i (0 : Int32))), (c, (xm_up fi (20, 0, 0) 0 (1 : Int32)), fl, r)) := by
  have hn := sh_n hs
  suffices key : ∀ R : xm_O, ((.inl (some (xm_i (0 : Int32))), (c, (xm_up fi (20, 0, 0) 0 (1 : Int32)), fl, r)) : xm_O) = R → xm_G E (d + 1) true 107 0 [some (xm_r (20, 0, 0)), some (xm_i (nI p)), some (xm_i y)] [] (c, fi, fl, r) R from go_inr (by decide) (Nat.le_of_ble_eq_true rfl) (key _ rfl)
  intro R hR
  refine pg_107_0 rfl ?_
  refine pg_107_1 rfl ?_
  refine pg_107_2 rfl ?_
  refine pg_107_3 (sk20 hs) (Nat.le_of_ble_eq_true rfl) (ct_99 (x := (nI p)) hs (fz_kp hf (kp_re [2000] fi) rfl rfl rfl)) ?_
  refine pg_107_6 (fun hc => absurd (nno_ok (n := n) (p := p) (by omega) (by omega)) hc) (fun _ => ?_)
  refine pg_107_9 rfl ?_
  refine pg_107_10 rfl ?_
  refine pg_107_11 (sk20 hs) (Nat.le_of_ble_eq_true rfl) (ct_99 (x := y) hs (fz_kp hf (kp_re [2000] fi) rfl rfl rfl)) ?_
  refine pg_107_14 (fun hc => absurd hc g0) (fun _ => ?_)
  refine pg_107_17 ?_
  refine pg_107_18 ?_
  refine pg_107_35 (sk20 hs) ?_
  refine pg_107_38 rfl ?_
  refine pg_107_39 (sk20 hs) ?_
  refine go_top (y := (1 : Int32)) (by simp [xm_up]) ?_
  refine pg_107_42 (fun hc => absurd hc (by decide)) (fun _ => ?_)
  refine pg_107_45 ?_
  refine pg_107_46 ?_
  exact go_eq hR.symm (pg_107_60)
theorem ct_107i0 {n : Nat} {E : xm_E} {c : Nat × Nat} {fi : FI} {fl : FL} {r : xm_I → Nat → Option xm_I} {d : Nat} {x : Int32} {y : Int32} (hs : sh n E c r) (hf : fz n fi) (g0 : (bI (sp_99 n x)) = 0) (g1 : ¬ (bI (sp_99 n y)) = 0) : xm_C E (d + 2) true 107 [xm_r (20, 0, 0), xm_i x, xm_i y] (c, fi, fl, r) (.inl (some (xm_i (0 : Int32))), (c, (xm_up fi (20, 0, 0) 0 (1 : Int32)), fl, r)) := by
  have hn := sh_n hs
  suffices key : ∀ R : xm_O, ((.inl (some (xm_i (0 : Int32))), (c, (xm_up fi (20, 0, 0) 0 (1 : Int32)), fl, r)) : xm_O) = R → xm_G E (d + 1) true 107 0 [some (xm_r (20, 0, 0)), some (xm_i x), some (xm_i y)] [] (c, fi, fl, r) R from go_inr (by decide) (Nat.le_of_ble_eq_true rfl) (key _ rfl)
  intro R hR
  refine pg_107_0 rfl ?_
  refine pg_107_1 rfl ?_
  refine pg_107_2 rfl ?_
  refine pg_107_3 (sk20 hs) (Nat.le_of_ble_eq_true rfl) (ct_99 (x := x) hs (fz_kp hf (kp_re [2000] fi) rfl rfl rfl)) ?_
  refine pg_107_6 (fun hc => absurd g0 hc) (fun _ => ?_)
  refine pg_107_9 rfl ?_
  refine pg_107_10 rfl ?_
  refine pg_107_11 (sk20 hs) (Nat.le_of_ble_eq_true rfl) (ct_99 (x := y) hs (fz_kp hf (kp_re [2000] fi) rfl rfl rfl)) ?_
  refine pg_107_14 (fun hc => absurd hc g1) (fun _ => ?_)
  refine pg_107_17 ?_
  refine pg_107_18 ?_
  refine pg_107_35 (sk20 hs) ?_
  refine pg_107_38 rfl ?_
  refine pg_107_39 (sk20 hs) ?_
  refine go_top (y := (1 : Int32)) (by simp [xm_up]) ?_
  refine pg_107_42 (fun hc => absurd hc (by decide)) (fun _ => ?_)
  refine pg_107_45 ?_
  refine pg_107_46 ?_
  exact go_eq hR.symm (pg_107_60)
theorem ct_107i1 {n : Nat} {E : xm_E} {c : Nat × Nat} {fi : FI} {fl : FL} {r : xm_I → Nat → Option xm_I} {d : Nat} {x : Int32} {y : Int32} (hs : sh n E c r) (hf : fz n fi) (g0 : ¬ (bI (sp_99 n x)) = 0) : xm_C E (d + 2) true 107 [xm_r (20, 0, 0), xm_i x, xm_i y] (c, fi, fl, r) (.inl (some (xm_i (0 : Int32))), (c, (xm_up fi (20, 0, 0) 0 (1 : Int32)), fl, r)) := by
  have hn := sh_n hs
  suffices key : ∀ R : xm_O, ((.inl (some (xm_i (0 : Int32))), (c, (xm_up fi (20, 0, 0) 0 (1 : Int32)), fl, r)) : xm_O) = R → xm_G E (d + 1) true 107 0 [some (xm_r (20, 0, 0)), some (xm_i x), some (xm_i y)] [] (c, fi, fl, r) R from go_inr (by decide) (Nat.le_of_ble_eq_true rfl) (key _ rfl)
  intro R hR
  refine pg_107_0 rfl ?_
  refine pg_107_1 rfl ?_
  refine pg_107_2 rfl ?_
  refine pg_107_3 (sk20 hs) (Nat.le_of_ble_eq_true rfl) (ct_99 (x := x) hs (fz_kp hf (kp_re [2000] fi) rfl rfl rfl)) ?_
  refine pg_107_6 (fun _ => ?_) (fun hc => absurd hc g0)
  refine pg_107_17 ?_
  refine pg_107_18 ?_
  refine pg_107_35 (sk20 hs) ?_
  refine pg_107_38 rfl ?_
  refine pg_107_39 (sk20 hs) ?_
  refine go_top (y := (1 : Int32)) (by simp [xm_up]) ?_
  refine pg_107_42 (fun hc => absurd hc (by decide)) (fun _ => ?_)
  refine pg_107_45 ?_
  refine pg_107_46 ?_
  exact go_eq hR.symm (pg_107_60)
theorem ct_105v0 {n : Nat} {E : xm_E} {c : Nat × Nat} {fi : FI} {fl : FL} {r : xm_I → Nat → Option xm_I} {d : Nat} {p : Nat} (hs : sh n E c r) (hp : p < n) (hf : fz n fi) (g0 : (fi (21, 11, 0) p) = 0) : xm_C E (d + 2) true 105 [xm_r (20, 0, 0), xm_i (nI p)] (c, fi, fl, r) (.inl (some (xm_i (0 : Int32))), (c, (xm_up fi (20, 0, 0) 0 (0 : Int32)), fl, r)) := by
  have hn := sh_n hs
  suffices key : ∀ R : xm_O, ((.inl (some (xm_i (0 : Int32))), (c, (xm_up fi (20, 0, 0) 0 (0 : Int32)), fl, r)) : xm_O) = R → xm_G E (d + 1) true 105 0 [some (xm_r (20, 0, 0)), some (xm_i (nI p))] [] (c, fi, fl, r) R from go_inr (by decide) (Nat.le_of_ble_eq_true rfl) (key _ rfl)
  intro R hR
  refine pg_105_0 rfl ?_
  refine pg_105_1 rfl ?_
  refine pg_105_2 rfl ?_
  refine pg_105_3 (sk20 hs) (Nat.le_of_ble_eq_true rfl) (ct_99 (x := (nI p)) hs (fz_kp hf (kp_re [2000] fi) rfl rfl rfl)) ?_
  refine pg_105_6 (fun _ => ?_) (fun hc => absurd (nno_ok (n := n) (p := p) (by omega) (by omega)) hc)
  refine pg_105_13 ?_
  refine pg_105_14 (sk20 hs) ?_
  refine pg_105_17 rfl ?_
  refine pg_105_18 (sk20 hs) ?_
  refine go_top (y := (0 : Int32)) (by simp [xm_up]) ?_
  refine pg_105_21 (fun hc => absurd (by decide) hc) (fun _ => ?_)
  refine pg_105_24 rfl ?_
  refine pg_105_25 (sk20 hs) (sr20_11 hs) ?_
  refine pg_105_28 rfl ?_
  refine pg_105_29 (sk21_11 hs) (i := p) rfl (by omega) (by omega) ?_
  refine go_top (y := (fi (21, 11, 0) p)) (by simp [xm_up]) ?_
  refine pg_105_30 (fun _ => ?_) (fun hc => absurd g0 hc)
  refine pg_105_37 ?_
  exact go_eq hR.symm (pg_105_38 (Or.inl rfl))
theorem ct_105v1 {n : Nat} {E : xm_E} {c : Nat × Nat} {fi : FI} {fl : FL} {r : xm_I → Nat → Option xm_I} {d : Nat} {p : Nat} (hs : sh n E c r) (hp : p < n) (hf : fz n fi) (g0 : ¬ (fi (21, 11, 0) p) = 0) : xm_C E (d + 2) true 105 [xm_r (20, 0, 0), xm_i (nI p)] (c, fi, fl, r) (.inl (some (xm_i (1 : Int32))), (c, (xm_up fi (20, 0, 0) 0 (0 : Int32)), fl, r)) := by
  have hn := sh_n hs
  suffices key : ∀ R : xm_O, ((.inl (some (xm_i (1 : Int32))), (c, (xm_up fi (20, 0, 0) 0 (0 : Int32)), fl, r)) : xm_O) = R → xm_G E (d + 1) true 105 0 [some (xm_r (20, 0, 0)), some (xm_i (nI p))] [] (c, fi, fl, r) R from go_inr (by decide) (Nat.le_of_ble_eq_true rfl) (key _ rfl)
  intro R hR
  refine pg_105_0 rfl ?_
  refine pg_105_1 rfl ?_
  refine pg_105_2 rfl ?_
  refine pg_105_3 (sk20 hs) (Nat.le_of_ble_eq_true rfl) (ct_99 (x := (nI p)) hs (fz_kp hf (kp_re [2000] fi) rfl rfl rfl)) ?_
  refine pg_105_6 (fun _ => ?_) (fun hc => absurd (nno_ok (n := n) (p := p) (by omega) (by omega)) hc)
  refine pg_105_13 ?_
  refine pg_105_14 (sk20 hs) ?_
  refine pg_105_17 rfl ?_
  refine pg_105_18 (sk20 hs) ?_
  refine go_top (y := (0 : Int32)) (by simp [xm_up]) ?_
  refine pg_105_21 (fun hc => absurd (by decide) hc) (fun _ => ?_)
  refine pg_105_24 rfl ?_
  refine pg_105_25 (sk20 hs) (sr20_11 hs) ?_
  refine pg_105_28 rfl ?_
  refine pg_105_29 (sk21_11 hs) (i := p) rfl (by omega) (by omega) ?_
  refine go_top (y := (fi (21, 11, 0) p)) (by simp [xm_up]) ?_
  refine pg_105_30 (fun hc => absurd hc g0) (fun _ => ?_)
  refine pg_105_33 ?_
  refine pg_105_34 ?_
  exact go_eq hR.symm (pg_105_38 (Or.inr rfl))
theorem ct_105i0 {n : Nat} {E : xm_E} {c : Nat × Nat} {fi : FI} {fl : FL} {r : xm_I → Nat → Option xm_I} {d : Nat} {x : Int32} (hs : sh n E c r) (hf : fz n fi) (g0 : ¬ (bI (sp_99 n x)) = 0) : xm_C E (d + 2) true 105 [xm_r (20, 0, 0), xm_i x] (c, fi, fl, r) (.inl (some (xm_i (0 : Int32))), (c, (xm_up fi (20, 0, 0) 0 (1 : Int32)), fl, r)) := by
  have hn := sh_n hs
  suffices key : ∀ R : xm_O, ((.inl (some (xm_i (0 : Int32))), (c, (xm_up fi (20, 0, 0) 0 (1 : Int32)), fl, r)) : xm_O) = R → xm_G E (d + 1) true 105 0 [some (xm_r (20, 0, 0)), some (xm_i x)] [] (c, fi, fl, r) R from go_inr (by decide) (Nat.le_of_ble_eq_true rfl) (key _ rfl)
  intro R hR
  refine pg_105_0 rfl ?_
  refine pg_105_1 rfl ?_
  refine pg_105_2 rfl ?_
  refine pg_105_3 (sk20 hs) (Nat.le_of_ble_eq_true rfl) (ct_99 (x := x) hs (fz_kp hf (kp_re [2000] fi) rfl rfl rfl)) ?_
  refine pg_105_6 (fun hc => absurd hc g0) (fun _ => ?_)
  refine pg_105_9 ?_
  refine pg_105_10 ?_
  refine pg_105_14 (sk20 hs) ?_
  refine pg_105_17 rfl ?_
  refine pg_105_18 (sk20 hs) ?_
  refine go_top (y := (1 : Int32)) (by simp [xm_up]) ?_
  refine pg_105_21 (fun _ => ?_) (fun hc => absurd hc (by decide))
  refine pg_105_37 ?_
  exact go_eq hR.symm (pg_105_38 (Or.inl rfl))
theorem ct_108v0 {n : Nat} {E : xm_E} {c : Nat × Nat} {fi : FI} {fl : FL} {r : xm_I → Nat → Option xm_I} {d : Nat} {p : Nat} (hs : sh n E c r) (hp : p < n) (hf : fz n fi) (g0 : (fi (21, 11, 0) p) = 0) : xm_C E (d + 2) true 108 [xm_r (20, 0, 0), xm_i (nI p)] (c, fi, fl, r) (.inl (some (xm_i (fi (21, 12, 0) p))), (c, (xm_up fi (20, 0, 0) 0 (0 : Int32)), fl, r)) := by
  have hn := sh_n hs
  suffices key : ∀ R : xm_O, ((.inl (some (xm_i (fi (21, 12, 0) p))), (c, (xm_up fi (20, 0, 0) 0 (0 : Int32)), fl, r)) : xm_O) = R → xm_G E (d + 1) true 108 0 [some (xm_r (20, 0, 0)), some (xm_i (nI p))] [] (c, fi, fl, r) R from go_inr (by decide) (Nat.le_of_ble_eq_true rfl) (key _ rfl)
  intro R hR
  refine pg_108_0 rfl ?_
  refine pg_108_1 rfl ?_
  refine pg_108_2 rfl ?_
  refine pg_108_3 (sk20 hs) (Nat.le_of_ble_eq_true rfl) (ct_99 (x := (nI p)) hs (fz_kp hf (kp_re [2000] fi) rfl rfl rfl)) ?_
  refine pg_108_6 (fun _ => ?_) (fun hc => absurd (nno_ok (n := n) (p := p) (by omega) (by omega)) hc)
  refine pg_108_13 rfl ?_
  refine pg_108_14 (sk20 hs) (sr20_11 hs) ?_
  refine pg_108_17 rfl ?_
  refine pg_108_18 (sk21_11 hs) (i := p) rfl (by omega) (by omega) ?_
  refine pg_108_19 (fun _ => ?_) (fun hc => absurd g0 hc)
  refine pg_108_26 ?_
  refine pg_108_27 (sk20 hs) ?_
  refine pg_108_30 rfl ?_
  refine pg_108_31 (sk20 hs) ?_
  refine go_top (y := (0 : Int32)) (by simp [xm_up]) ?_
  refine pg_108_34 (fun _ => ?_) (fun hc => absurd (by decide) hc)
  refine pg_108_41 rfl ?_
  refine pg_108_42 (sk20 hs) (sr20_12 hs) ?_
  refine pg_108_45 rfl ?_
  refine pg_108_46 (Or.inl (sk21_12 hs)) (i := p) rfl (by omega) (by omega) ?_
  refine go_top (y := (fi (21, 12, 0) p)) (by simp [xm_up]) ?_
  exact go_eq hR.symm (pg_108_47)
theorem ct_108v1 {n : Nat} {E : xm_E} {c : Nat × Nat} {fi : FI} {fl : FL} {r : xm_I → Nat → Option xm_I} {d : Nat} {p : Nat} (hs : sh n E c r) (hp : p < n) (hf : fz n fi) (g0 : ¬ (fi (21, 11, 0) p) = 0) : xm_C E (d + 2) true 108 [xm_r (20, 0, 0), xm_i (nI p)] (c, fi, fl, r) (.inl (some (xm_i (0 : Int32))), (c, (xm_up fi (20, 0, 0) 0 (2 : Int32)), fl, r)) := by
  have hn := sh_n hs
  suffices key : ∀ R : xm_O, ((.inl (some (xm_i (0 : Int32))), (c, (xm_up fi (20, 0, 0) 0 (2 : Int32)), fl, r)) : xm_O) = R → xm_G E (d + 1) true 108 0 [some (xm_r (20, 0, 0)), some (xm_i (nI p))] [] (c, fi, fl, r) R from go_inr (by decide) (Nat.le_of_ble_eq_true rfl) (key _ rfl)
  intro R hR
  refine pg_108_0 rfl ?_
  refine pg_108_1 rfl ?_
  refine pg_108_2 rfl ?_
  refine pg_108_3 (sk20 hs) (Nat.le_of_ble_eq_true rfl) (ct_99 (x := (nI p)) hs (fz_kp hf (kp_re [2000] fi) rfl rfl rfl)) ?_
  refine pg_108_6 (fun _ => ?_) (fun hc => absurd (nno_ok (n := n) (p := p) (by omega) (by omega)) hc)
  refine pg_108_13 rfl ?_
  refine pg_108_14 (sk20 hs) (sr20_11 hs) ?_
  refine pg_108_17 rfl ?_
  refine pg_108_18 (sk21_11 hs) (i := p) rfl (by omega) (by omega) ?_
  refine pg_108_19 (fun hc => absurd hc g0) (fun _ => ?_)
  refine pg_108_22 ?_
  refine pg_108_23 ?_
  refine pg_108_27 (sk20 hs) ?_
  refine pg_108_30 rfl ?_
  refine pg_108_31 (sk20 hs) ?_
  refine go_top (y := (2 : Int32)) (by simp [xm_up]) ?_
  refine pg_108_34 (fun hc => absurd hc (by decide)) (fun _ => ?_)
  refine pg_108_37 ?_
  refine pg_108_38 ?_
  exact go_eq hR.symm (pg_108_47)
theorem ct_108i0 {n : Nat} {E : xm_E} {c : Nat × Nat} {fi : FI} {fl : FL} {r : xm_I → Nat → Option xm_I} {d : Nat} {x : Int32} (hs : sh n E c r) (hf : fz n fi) (g0 : ¬ (bI (sp_99 n x)) = 0) : xm_C E (d + 2) true 108 [xm_r (20, 0, 0), xm_i x] (c, fi, fl, r) (.inl (some (xm_i (0 : Int32))), (c, (xm_up fi (20, 0, 0) 0 (1 : Int32)), fl, r)) := by
  have hn := sh_n hs
  suffices key : ∀ R : xm_O, ((.inl (some (xm_i (0 : Int32))), (c, (xm_up fi (20, 0, 0) 0 (1 : Int32)), fl, r)) : xm_O) = R → xm_G E (d + 1) true 108 0 [some (xm_r (20, 0, 0)), some (xm_i x)] [] (c, fi, fl, r) R from go_inr (by decide) (Nat.le_of_ble_eq_true rfl) (key _ rfl)
  intro R hR
  refine pg_108_0 rfl ?_
  refine pg_108_1 rfl ?_
  refine pg_108_2 rfl ?_
  refine pg_108_3 (sk20 hs) (Nat.le_of_ble_eq_true rfl) (ct_99 (x := x) hs (fz_kp hf (kp_re [2000] fi) rfl rfl rfl)) ?_
  refine pg_108_6 (fun hc => absurd hc g0) (fun _ => ?_)
  refine pg_108_9 ?_
  refine pg_108_10 ?_
  refine pg_108_27 (sk20 hs) ?_
  refine pg_108_30 rfl ?_
  refine pg_108_31 (sk20 hs) ?_
  refine go_top (y := (1 : Int32)) (by simp [xm_up]) ?_
  refine pg_108_34 (fun hc => absurd hc (by decide)) (fun _ => ?_)
  refine pg_108_37 ?_
  refine pg_108_38 ?_
  exact go_eq hR.symm (pg_108_47)
theorem ct_109v0 {n : Nat} {E : xm_E} {c : Nat × Nat} {fi : FI} {fl : FL} {r : xm_I → Nat → Option xm_I} {d : Nat} {p : Nat} (hs : sh n E c r) (hp : p < n) (hf : fz n fi) (g0 : (fi (21, 11, 0) p) = 0) : xm_C E (d + 2) true 109 [xm_r (20, 0, 0), xm_i (nI p)] (c, fi, fl, r) (.inl (some (xm_i (fi (21, 13, 0) p))), (c, (xm_up fi (20, 0, 0) 0 (0 : Int32)), fl, r)) := by
  have hn := sh_n hs
  suffices key : ∀ R : xm_O, ((.inl (some (xm_i (fi (21, 13, 0) p))), (c, (xm_up fi (20, 0, 0) 0 (0 : Int32)), fl, r)) : xm_O) = R → xm_G E (d + 1) true 109 0 [some (xm_r (20, 0, 0)), some (xm_i (nI p))] [] (c, fi, fl, r) R from go_inr (by decide) (Nat.le_of_ble_eq_true rfl) (key _ rfl)
  intro R hR
  refine pg_109_0 rfl ?_
  refine pg_109_1 rfl ?_
  refine pg_109_2 rfl ?_
  refine pg_109_3 (sk20 hs) (Nat.le_of_ble_eq_true rfl) (ct_99 (x := (nI p)) hs (fz_kp hf (kp_re [2000] fi) rfl rfl rfl)) ?_
  refine pg_109_6 (fun _ => ?_) (fun hc => absurd (nno_ok (n := n) (p := p) (by omega) (by omega)) hc)
  refine pg_109_13 rfl ?_
  refine pg_109_14 (sk20 hs) (sr20_11 hs) ?_
  refine pg_109_17 rfl ?_
  refine pg_109_18 (sk21_11 hs) (i := p) rfl (by omega) (by omega) ?_
  refine pg_109_19 (fun _ => ?_) (fun hc => absurd g0 hc)
  refine pg_109_26 ?_
  refine pg_109_27 (sk20 hs) ?_
  refine pg_109_30 rfl ?_
  refine pg_109_31 (sk20 hs) ?_
  refine go_top (y := (0 : Int32)) (by simp [xm_up]) ?_
  refine pg_109_34 (fun _ => ?_) (fun hc => absurd (by decide) hc)
  refine pg_109_41 rfl ?_
  refine pg_109_42 (sk20 hs) (sr20_13 hs) ?_
  refine pg_109_45 rfl ?_
  refine pg_109_46 (Or.inl (sk21_13 hs)) (i := p) rfl (by omega) (by omega) ?_
  refine go_top (y := (fi (21, 13, 0) p)) (by simp [xm_up]) ?_
  exact go_eq hR.symm (pg_109_47)
theorem ct_109v1 {n : Nat} {E : xm_E} {c : Nat × Nat} {fi : FI} {fl : FL} {r : xm_I → Nat → Option xm_I} {d : Nat} {p : Nat} (hs : sh n E c r) (hp : p < n) (hf : fz n fi) (g0 : ¬ (fi (21, 11, 0) p) = 0) : xm_C E (d + 2) true 109 [xm_r (20, 0, 0), xm_i (nI p)] (c, fi, fl, r) (.inl (some (xm_i (0 : Int32))), (c, (xm_up fi (20, 0, 0) 0 (2 : Int32)), fl, r)) := by
  have hn := sh_n hs
  suffices key : ∀ R : xm_O, ((.inl (some (xm_i (0 : Int32))), (c, (xm_up fi (20, 0, 0) 0 (2 : Int32)), fl, r)) : xm_O) = R → xm_G E (d + 1) true 109 0 [some (xm_r (20, 0, 0)), some (xm_i (nI p))] [] (c, fi, fl, r) R from go_inr (by decide) (Nat.le_of_ble_eq_true rfl) (key _ rfl)
  intro R hR
  refine pg_109_0 rfl ?_
  refine pg_109_1 rfl ?_
  refine pg_109_2 rfl ?_
  refine pg_109_3 (sk20 hs) (Nat.le_of_ble_eq_true rfl) (ct_99 (x := (nI p)) hs (fz_kp hf (kp_re [2000] fi) rfl rfl rfl)) ?_
  refine pg_109_6 (fun _ => ?_) (fun hc => absurd (nno_ok (n := n) (p := p) (by omega) (by omega)) hc)
  refine pg_109_13 rfl ?_
  refine pg_109_14 (sk20 hs) (sr20_11 hs) ?_
  refine pg_109_17 rfl ?_
  refine pg_109_18 (sk21_11 hs) (i := p) rfl (by omega) (by omega) ?_
  refine pg_109_19 (fun hc => absurd hc g0) (fun _ => ?_)
  refine pg_109_22 ?_
  refine pg_109_23 ?_
  refine pg_109_27 (sk20 hs) ?_
  refine pg_109_30 rfl ?_
  refine pg_109_31 (sk20 hs) ?_
  refine go_top (y := (2 : Int32)) (by simp [xm_up]) ?_
  refine pg_109_34 (fun hc => absurd hc (by decide)) (fun _ => ?_)
  refine pg_109_37 ?_
  refine pg_109_38 ?_
  exact go_eq hR.symm (pg_109_47)
theorem ct_109i0 {n : Nat} {E : xm_E} {c : Nat × Nat} {fi : FI} {fl : FL} {r : xm_I → Nat → Option xm_I} {d : Nat} {x : Int32} (hs : sh n E c r) (hf : fz n fi) (g0 : ¬ (bI (sp_99 n x)) = 0) : xm_C E (d + 2) true 109 [xm_r (20, 0, 0), xm_i x] (c, fi, fl, r) (.inl (some (xm_i (0 : Int32))), (c, (xm_up fi (20, 0, 0) 0 (1 : Int32)), fl, r)) := by
  have hn := sh_n hs
  suffices key : ∀ R : xm_O, ((.inl (some (xm_i (0 : Int32))), (c, (xm_up fi (20, 0, 0) 0 (1 : Int32)), fl, r)) : xm_O) = R → xm_G E (d + 1) true 109 0 [some (xm_r (20, 0, 0)), some (xm_i x)] [] (c, fi, fl, r) R from go_inr (by decide) (Nat.le_of_ble_eq_true rfl) (key _ rfl)
  intro R hR
  refine pg_109_0 rfl ?_
  refine pg_109_1 rfl ?_
  refine pg_109_2 rfl ?_
  refine pg_109_3 (sk20 hs) (Nat.le_of_ble_eq_true rfl) (ct_99 (x := x) hs (fz_kp hf (kp_re [2000] fi) rfl rfl rfl)) ?_
  refine pg_109_6 (fun hc => absurd hc g0) (fun _ => ?_)
  refine pg_109_9 ?_
  refine pg_109_10 ?_
  refine pg_109_27 (sk20 hs) ?_
  refine pg_109_30 rfl ?_
  refine pg_109_31 (sk20 hs) ?_
  refine go_top (y := (1 : Int32)) (by simp [xm_up]) ?_
  refine pg_109_34 (fun hc => absurd hc (by decide)) (fun _ => ?_)
  refine pg_109_37 ?_
  refine pg_109_38 ?_
  exact go_eq hR.symm (pg_109_47)
theorem ct_110v0 {n : Nat} {E : xm_E} {c : Nat × Nat} {fi : FI} {fl : FL} {r : xm_I → Nat → Option xm_I} {d : Nat} {p : Nat} (hs : sh n E c r) (hp : p < n) (hf : fz n fi) (g0 : (fi (21, 19, 0) p) = 0) : xm_C E (d + 2) true 110 [xm_r (20, 0, 0), xm_i (nI p)] (c, fi, fl, r) (.inl (some (xm_i (0 : Int32))), (c, (xm_up fi (20, 0, 0) 0 (2 : Int32)), fl, r)) := by
  have hn := sh_n hs
  suffices key : ∀ R : xm_O, ((.inl (some (xm_i (0 : Int32))), (c, (xm_up fi (20, 0, 0) 0 (2 : Int32)), fl, r)) : xm_O) = R → xm_G E (d + 1) true 110 0 [some (xm_r (20, 0, 0)), some (xm_i (nI p))] [] (c, fi, fl, r) R from go_inr (by decide) (Nat.le_of_ble_eq_true rfl) (key _ rfl)
  intro R hR
  refine pg_110_0 rfl ?_
  refine pg_110_1 rfl ?_
  refine pg_110_2 rfl ?_
  refine pg_110_3 (sk20 hs) (Nat.le_of_ble_eq_true rfl) (ct_99 (x := (nI p)) hs (fz_kp hf (kp_re [2000] fi) rfl rfl rfl)) ?_
  refine pg_110_6 (fun _ => ?_) (fun hc => absurd (nno_ok (n := n) (p := p) (by omega) (by omega)) hc)
  refine pg_110_13 rfl ?_
  refine pg_110_14 (sk20 hs) (sr20_19 hs) ?_
  refine pg_110_17 rfl ?_
  refine pg_110_18 (sk21_19 hs) (i := p) rfl (by omega) (by omega) ?_
  refine pg_110_19 (fun hc => absurd g0 hc) (fun _ => ?_)
  refine pg_110_22 ?_
  refine pg_110_23 ?_
  refine pg_110_27 (sk20 hs) ?_
  refine pg_110_30 rfl ?_
  refine pg_110_31 (sk20 hs) ?_
  refine go_top (y := (2 : Int32)) (by simp [xm_up]) ?_
  refine pg_110_34 (fun hc => absurd hc (by decide)) (fun _ => ?_)
  refine pg_110_37 ?_
  refine pg_110_38 ?_
  exact go_eq hR.symm (pg_110_47)
theorem ct_110v1 {n : Nat} {E : xm_E} {c : Nat × Nat} {fi : FI} {fl : FL} {r : xm_I → Nat → Option xm_I} {d : Nat} {p : Nat} (hs : sh n E c r) (hp : p < n) (hf : fz n fi) (g0 : ¬ (fi (21, 19, 0) p) = 0) : xm_C E (d + 2) true 110 [xm_r (20, 0, 0), xm_i (nI p)] (c, fi, fl, r) (.inl (some (xm_i (fi (21, 20, 0) p))), (c, (xm_up fi (20, 0, 0) 0 (0 : Int32)), fl, r)) := by
  have hn := sh_n hs
  suffices key : ∀ R : xm_O, ((.inl (some (xm_i (fi (21, 20, 0) p))), (c, (xm_up fi (20, 0, 0) 0 (0 : Int32)), fl, r)) : xm_O) = R → xm_G E (d + 1) true 110 0 [some (xm_r (20, 0, 0)), some (xm_i (nI p))] [] (c, fi, fl, r) R from go_inr (by decide) (Nat.le_of_ble_eq_true rfl) (key _ rfl)
  intro R hR
  refine pg_110_0 rfl ?_
  refine pg_110_1 rfl ?_
  refine pg_110_2 rfl ?_
  refine pg_110_3 (sk20 hs) (Nat.le_of_ble_eq_true rfl) (ct_99 (x := (nI p)) hs (fz_kp hf (kp_re [2000] fi) rfl rfl rfl)) ?_
  refine pg_110_6 (fun _ => ?_) (fun hc => absurd (nno_ok (n := n) (p := p) (by omega) (by omega)) hc)
  refine pg_110_13 rfl ?_
  refine pg_110_14 (sk20 hs) (sr20_19 hs) ?_
  refine pg_110_17 rfl ?_
  refine pg_110_18 (sk21_19 hs) (i := p) rfl (by omega) (by omega) ?_
  refine pg_110_19 (fun _ => ?_) (fun hc => absurd hc g0)
  refine pg_110_26 ?_
  refine pg_110_27 (sk20 hs) ?_
  refine pg_110_30 rfl ?_
  refine pg_110_31 (sk20 hs) ?_
  refine go_top (y := (0 : Int32)) (by simp [xm_up]) ?_
  refine pg_110_34 (fun _ => ?_) (fun hc => absurd (by decide) hc)
  refine pg_110_41 rfl ?_
  refine pg_110_42 (sk20 hs) (sr20_20 hs) ?_
  refine pg_110_45 rfl ?_
  refine pg_110_46 (Or.inl (sk21_20 hs)) (i := p) rfl (by omega) (by omega) ?_
  refine go_top (y := (fi (21, 20, 0) p)) (by simp [xm_up]) ?_
  exact go_eq hR.symm (pg_110_47)
theorem ct_110i0 {n : Nat} {E : xm_E} {c : Nat × Nat} {fi : FI} {fl : FL} {r : xm_I → Nat → Option xm_I} {d : Nat} {x : Int32} (hs : sh n E c r) (hf : fz n fi) (g0 : ¬ (bI (sp_99 n x)) = 0) : xm_C E (d + 2) true 110 [xm_r (20, 0, 0), xm_i x] (c, fi, fl, r) (.inl (some (xm_i (0 : Int32))), (c, (xm_up fi (20, 0, 0) 0 (1 : Int32)), fl, r)) := by
  have hn := sh_n hs
  suffices key : ∀ R : xm_O, ((.inl (some (xm_i (0 : Int32))), (c, (xm_up fi (20, 0, 0) 0 (1 : Int32)), fl, r)) : xm_O) = R → xm_G E (d + 1) true 110 0 [some (xm_r (20, 0, 0)), some (xm_i x)] [] (c, fi, fl, r) R from go_inr (by decide) (Nat.le_of_ble_eq_true rfl) (key _ rfl)
  intro R hR
  refine pg_110_0 rfl ?_
  refine pg_110_1 rfl ?_
  refine pg_110_2 rfl ?_
  refine pg_110_3 (sk20 hs) (Nat.le_of_ble_eq_true rfl) (ct_99 (x := x) hs (fz_kp hf (kp_re [2000] fi) rfl rfl rfl)) ?_
  refine pg_110_6 (fun hc => absurd hc g0) (fun _ => ?_)
  refine pg_110_9 ?_
  refine pg_110_10 ?_
  refine pg_110_27 (sk20 hs) ?_
  refine pg_110_30 rfl ?_
  refine pg_110_31 (sk20 hs) ?_
  refine go_top (y := (1 : Int32)) (by simp [xm_up]) ?_
  refine pg_110_34 (fun hc => absurd hc (by decide)) (fun _ => ?_)
  refine pg_110_37 ?_
  refine pg_110_38 ?_
  exact go_eq hR.symm (pg_110_47)
theorem ct_111j0 {n : Nat} {E : xm_E} {c : Nat × Nat} {fi : FI} {fl : FL} {r : xm_I → Nat → Option xm_I} {d : Nat} {p : Nat} {y : Int32} (hs : sh n E c r) (hp : p < n) (hf : fz n fi) (g0 : ¬ (bI (sp_99 n y)) = 0) : xm_C E (d + 2) true 111 [xm_r (20, 0, 0), xm_i (nI p), xm_i y] (c, fi, fl, r) (.inl (some (xm_i (0 : Int32))), (c, (xm_up fi (20, 0, 0) 0 (1 : Int32)), fl, r)) := by
  have hn := sh_n hs
  suffices key : ∀ R : xm_O, ((.inl (some (xm_i (0 : Int32))), (c, (xm_up fi (20, 0, 0) 0 (1 : Int32)), fl, r)) : xm_O) = R → xm_G E (d + 1) true 111 0 [some (xm_r (20, 0, 0)), some (xm_i (nI p)), some (xm_i y), none, none] [] (c, fi, fl, r) R from go_inr (by decide) (Nat.le_of_ble_eq_true rfl) (key _ rfl)
  intro R hR
  refine pg_111_0 rfl ?_
  refine pg_111_1 rfl ?_
  refine pg_111_2 rfl ?_
  refine pg_111_3 (sk20 hs) (Nat.le_of_ble_eq_true rfl) (ct_99 (x := (nI p)) hs (fz_kp hf (kp_re [2000] fi) rfl rfl rfl)) ?_
  refine pg_111_6 (fun hc => absurd (nno_ok (n := n) (p := p) (by omega) (by omega)) hc) (fun _ => ?_)
  refine pg_111_9 rfl ?_
  refine pg_111_10 rfl ?_
  refine pg_111_11 (sk20 hs) (Nat.le_of_ble_eq_true rfl) (ct_99 (x := y) hs (fz_kp hf (kp_re [2000] fi) rfl rfl rfl)) ?_
  refine pg_111_14 (fun hc => absurd hc g0) (fun _ => ?_)
  refine pg_111_17 ?_
  refine pg_111_18 ?_
  refine pg_111_22 (sk20 hs) ?_
  refine pg_111_25 rfl ?_
  refine pg_111_26 (sk20 hs) ?_
  refine go_top (y := (1 : Int32)) (by simp [xm_up]) ?_
  refine pg_111_29 (fun _ => ?_) (fun hc => absurd (by decide) hc)
  refine pg_111_47 ?_
  exact go_eq hR.symm (pg_111_48 (Or.inl rfl))
theorem ct_111i0 {n : Nat} {E : xm_E} {c : Nat × Nat} {fi : FI} {fl : FL} {r : xm_I → Nat → Option xm_I} {d : Nat} {x : Int32} {y : Int32} (hs : sh n E c r) (hf : fz n fi) (g0 : (bI (sp_99 n x)) = 0) (g1 : ¬ (bI (sp_99 n y)) = 0) : xm_C E (d + 2) true 111 [xm_r (20, 0, 0), xm_i x, xm_i y] (c, fi, fl, r) (.inl (some (xm_i (0 : Int32))), (c, (xm_up fi (20, 0, 0) 0 (1 : Int32)), fl, r)) := by
  have hn := sh_n hs
  suffices key : ∀ R : xm_O, ((.inl (some (xm_i (0 : Int32))), (c, (xm_up fi (20, 0, 0) 0 (1 : Int32)), fl, r)) : xm_O) = R → xm_G E (d + 1) true 111 0 [some (xm_r (20, 0, 0)), some (xm_i x), some (xm_i y), none, none] [] (c, fi, fl, r) R from go_inr (by decide) (Nat.le_of_ble_eq_true rfl) (key _ rfl)
  intro R hR
  refine pg_111_0 rfl ?_
  refine pg_111_1 rfl ?_
  refine pg_111_2 rfl ?_
  refine pg_111_3 (sk20 hs) (Nat.le_of_ble_eq_true rfl) (ct_99 (x := x) hs (fz_kp hf (kp_re [2000] fi) rfl rfl rfl)) ?_
  refine pg_111_6 (fun hc => absurd g0 hc) (fun _ => ?_)
  refine pg_111_9 rfl ?_
  refine pg_111_10 rfl ?_
  refine pg_111_11 (sk20 hs) (Nat.le_of_ble_eq_true rfl) (ct_99 (x := y) hs (fz_kp hf (kp_re [2000] fi) rfl rfl rfl)) ?_
  refine pg_111_14 (fun hc => absurd hc g1) (fun _ => ?_)
  refine pg_111_17 ?_
  refine pg_111_18 ?_
  refine pg_111_22 (sk20 hs) ?_
  refine pg_111_25 rfl ?_
  refine pg_111_26 (sk20 hs) ?_
  refine go_top (y := (1 : Int32)) (by simp [xm_up]) ?_
  refine pg_111_29 (fun _ => ?_) (fun hc => absurd (by decide) hc)
  refine pg_111_47 ?_
  exact go_eq hR.symm (pg_111_48 (Or.inl rfl))
theorem ct_111i1 {n : Nat} {E : xm_E} {c : Nat × Nat} {fi : FI} {fl : FL} {r : xm_I → Nat → Option xm_I} {d : Nat} {x : Int32} {y : Int32} (hs : sh n E c r) (hf : fz n fi) (g0 : ¬ (bI (sp_99 n x)) = 0) : xm_C E (d + 2) true 111 [xm_r (20, 0, 0), xm_i x, xm_i y] (c, fi, fl, r) (.inl (some (xm_i (0 : Int32))), (c, (xm_up fi (20, 0, 0) 0 (1 : Int32)), fl, r)) := by
  have hn := sh_n hs
  suffices key : ∀ R : xm_O, ((.inl (some (xm_i (0 : Int32))), (c, (xm_up fi (20, 0, 0) 0 (1 : Int32)), fl, r)) : xm_O) = R → xm_G E (d + 1) true 111 0 [some (xm_r (20, 0, 0)), some (xm_i x), some (xm_i y), none, none] [] (c, fi, fl, r) R from go_inr (by decide) (Nat.le_of_ble_eq_true rfl) (key _ rfl)
  intro R hR
  refine pg_111_0 rfl ?_
  refine pg_111_1 rfl ?_
  refine pg_111_2 rfl ?_
  refine pg_111_3 (sk20 hs) (Nat.le_of_ble_eq_true rfl) (ct_99 (x := x) hs (fz_kp hf (kp_re [2000] fi) rfl rfl rfl)) ?_
  refine pg_111_6 (fun _ => ?_) (fun hc => absurd hc g0)
  refine pg_111_17 ?_
  refine pg_111_18 ?_
  refine pg_111_22 (sk20 hs) ?_
  refine pg_111_25 rfl ?_
  refine pg_111_26 (sk20 hs) ?_
  refine go_top (y := (1 : Int32)) (by simp [xm_up]) ?_
  refine pg_111_29 (fun _ => ?_) (fun hc => absurd (by decide) hc)
  refine pg_111_47 ?_
  exact go_eq hR.symm (pg_111_48 (Or.inl rfl))
theorem ct_112l0 {n : Nat} {E : xm_E} {c : Nat × Nat} {fi : FI} {fl : FL} {r : xm_I → Nat → Option xm_I} {d : Nat} (hs : sh n E c r) : xm_C E (d + 1) true 112 [xm_r (20, 0, 0)] (c, fi, fl, r) (.inl (some (xm_i (fi (20, 0, 0) 21))), (c, (xm_up fi (20, 0, 0) 0 (0 : Int32)), fl, r)) := by
  have hn := sh_n hs
  suffices key : ∀ R : xm_O, ((.inl (some (xm_i (fi (20, 0, 0) 21))), (c, (xm_up fi (20, 0, 0) 0 (0 : Int32)), fl, r)) : xm_O) = R → xm_G E (d + 0) true 112 0 [some (xm_r (20, 0, 0))] [] (c, fi, fl, r) R from go_inr (by decide) (Nat.le_of_ble_eq_true rfl) (key _ rfl)
  intro R hR
  refine pg_112_0 rfl ?_
  refine pg_112_1 ?_
  refine pg_112_2 (sk20 hs) ?_
  refine pg_112_5 rfl ?_
  refine pg_112_6 (sk20 hs) ?_
  refine go_top (y := (fi (20, 0, 0) 21)) (by simp [xm_up]) ?_
  exact go_eq hR.symm (pg_112_9)
theorem ct_113l0 {n : Nat} {E : xm_E} {c : Nat × Nat} {fi : FI} {fl : FL} {r : xm_I → Nat → Option xm_I} {d : Nat} (hs : sh n E c r) : xm_C E (d + 1) true 113 [xm_r (20, 0, 0)] (c, fi, fl, r) (.inl (some (xm_i (fi (20, 0, 0) 22))), (c, (xm_up fi (20, 0, 0) 0 (0 : Int32)), fl, r)) := by
  have hn := sh_n hs
  suffices key : ∀ R : xm_O, ((.inl (some (xm_i (fi (20, 0, 0) 22))), (c, (xm_up fi (20, 0, 0) 0 (0 : Int32)), fl, r)) : xm_O) = R → xm_G E (d + 0) true 113 0 [some (xm_r (20, 0, 0))] [] (c, fi, fl, r) R from go_inr (by decide) (Nat.le_of_ble_eq_true rfl) (key _ rfl)
  intro R hR
  refine pg_113_0 rfl ?_
  refine pg_113_1 ?_
  refine pg_113_2 (sk20 hs) ?_
  refine pg_113_5 rfl ?_
  refine pg_113_6 (sk20 hs) ?_
  refine go_top (y := (fi (20, 0, 0) 22)) (by simp [xm_up]) ?_
  exact go_eq hR.symm (pg_113_9)
theorem ct_114l0 {n : Nat} {E : xm_E} {c : Nat × Nat} {fi : FI} {fl : FL} {r : xm_I → Nat → Option xm_I} {d : Nat} (hs : sh n E c r) : xm_C E (d + 1) true 114 [xm_r (20, 0, 0)] (c, fi, fl, r) (.inl (some (xm_i (fi (20, 0, 0) 23))), (c, (xm_up fi (20, 0, 0) 0 (0 : Int32)), fl, r)) := by
  have hn := sh_n hs
  suffices key : ∀ R : xm_O, ((.inl (some (xm_i (fi (20, 0, 0) 23))), (c, (xm_up fi (20, 0, 0) 0 (0 : Int32)), fl, r)) : xm_O) = R → xm_G E (d + 0) true 114 0 [some (xm_r (20, 0, 0))] [] (c, fi, fl, r) R from go_inr (by decide) (Nat.le_of_ble_eq_true rfl) (key _ rfl)
  intro R hR
  refine pg_114_0 rfl ?_
  refine pg_114_1 ?_
  refine pg_114_2 (sk20 hs) ?_
  refine pg_114_5 rfl ?_
  refine pg_114_6 (sk20 hs) ?_
  refine go_top (y := (fi (20, 0, 0) 23)) (by simp [xm_up]) ?_
  exact go_eq hR.symm (pg_114_9)
theorem ct_115v0 {n : Nat} {E : xm_E} {c : Nat × Nat} {fi : FI} {fl : FL} {r : xm_I → Nat → Option xm_I} {d : Nat} {p : Nat} (hs : sh n E c r) (hp : p < n + 1) (hf : fz n fi) (g0 : (nI p) < 0) : xm_C E (d + 1) true 115 [xm_r (20, 0, 0), xm_i (nI p)] (c, fi, fl, r) (.inl (some (xm_i (0 : Int32))), (c, (xm_up fi (20, 0, 0) 0 (1 : Int32)), fl, r)) := by
  have hn := sh_n hs
  suffices key : ∀ R : xm_O, ((.inl (some (xm_i (0 : Int32))), (c, (xm_up fi (20, 0, 0) 0 (1 : Int32)), fl, r)) : xm_O) = R → xm_G E (d + 0) true 115 0 [some (xm_r (20, 0, 0)), some (xm_i (nI p))] [] (c, fi, fl, r) R from go_inr (by decide) (Nat.le_of_ble_eq_true rfl) (key _ rfl)
  intro R hR
  refine pg_115_0 rfl ?_
  refine pg_115_1 rfl ?_
  refine pg_115_2 (fun _ => ?_) (fun hc => absurd g0 hc)
  refine pg_115_13 ?_
  refine pg_115_14 ?_
  refine pg_115_18 (sk20 hs) ?_
  refine pg_115_21 rfl ?_
  refine pg_115_22 (sk20 hs) ?_
  refine go_top (y := (1 : Int32)) (by simp [xm_up]) ?_
  refine pg_115_25 (fun hc => absurd hc (by decide)) (fun _ => ?_)
  refine pg_115_28 ?_
  refine pg_115_29 ?_
  exact go_eq hR.symm (pg_115_38)
theorem ct_115v1 {n : Nat} {E : xm_E} {c : Nat × Nat} {fi : FI} {fl : FL} {r : xm_I → Nat → Option xm_I} {d : Nat} {p : Nat} (hs : sh n E c r) (hp : p < n + 1) (hf : fz n fi) (g0 : ¬ (nI p) < 0) (g1 : (nI p) ≤ (nI n)) : xm_C E (d + 1) true 115 [xm_r (20, 0, 0), xm_i (nI p)] (c, fi, fl, r) (.inl (some (xm_i (fi (21, 24, 0) p))), (c, (xm_up fi (20, 0, 0) 0 (0 : Int32)), fl, r)) := by
  have hn := sh_n hs
  suffices key : ∀ R : xm_O, ((.inl (some (xm_i (fi (21, 24, 0) p))), (c, (xm_up fi (20, 0, 0) 0 (0 : Int32)), fl, r)) : xm_O) = R → xm_G E (d + 0) true 115 0 [some (xm_r (20, 0, 0)), some (xm_i (nI p))] [] (c, fi, fl, r) R from go_inr (by decide) (Nat.le_of_ble_eq_true rfl) (key _ rfl)
  intro R hR
  refine pg_115_0 rfl ?_
  refine pg_115_1 rfl ?_
  refine pg_115_2 (fun hc => absurd hc g0) (fun _ => ?_)
  refine pg_115_5 rfl ?_
  refine pg_115_6 rfl ?_
  refine pg_115_7 (sk20 hs) ?_
  refine go_top (y := nI n) (fz_kp hf (kp_re [2000] fi) rfl rfl rfl).2 ?_
  refine pg_115_10 (fun _ => ?_) (fun hc => absurd g1 hc)
  refine pg_115_17 ?_
  refine pg_115_18 (sk20 hs) ?_
  refine pg_115_21 rfl ?_
  refine pg_115_22 (sk20 hs) ?_
  refine go_top (y := (0 : Int32)) (by simp [xm_up]) ?_
  refine pg_115_25 (fun _ => ?_) (fun hc => absurd (by decide) hc)
  refine pg_115_32 rfl ?_
  refine pg_115_33 (sk20 hs) (sr20_24 hs) ?_
  refine pg_115_36 rfl ?_
  refine pg_115_37 (Or.inl (sk21_24 hs)) (i := p) rfl (by omega) (by omega) ?_
  refine go_top (y := (fi (21, 24, 0) p)) (by simp [xm_up]) ?_
  exact go_eq hR.symm (pg_115_38)
theorem ct_115v2 {n : Nat} {E : xm_E} {c : Nat × Nat} {fi : FI} {fl : FL} {r : xm_I → Nat → Option xm_I} {d : Nat} {p : Nat} (hs : sh n E c r) (hp : p < n + 1) (hf : fz n fi) (g0 : ¬ (nI p) < 0) (g1 : ¬ (nI p) ≤ (nI n)) : xm_C E (d + 1) true 115 [xm_r (20, 0, 0), xm_i (nI p)] (c, fi, fl, r) (.inl (some (xm_i (0 : Int32))), (c, (xm_up fi (20, 0, 0) 0 (1 : Int32)), fl, r)) := by
  have hn := sh_n hs
  suffices key : ∀ R : xm_O, ((.inl (some (xm_i (0 : Int32))), (c, (xm_up fi (20, 0, 0) 0 (1 : Int32)), fl, r)) : xm_O) = R → xm_G E (d + 0) true 115 0 [some (xm_r (20, 0, 0)), some (xm_i (nI p))] [] (c, fi, fl, r) R from go_inr (by decide) (Nat.le_of_ble_eq_true rfl) (key _ rfl)
  intro R hR
  refine pg_115_0 rfl ?_
  refine pg_115_1 rfl ?_
  refine pg_115_2 (fun hc => absurd hc g0) (fun _ => ?_)
  refine pg_115_5 rfl ?_
  refine pg_115_6 rfl ?_
  refine pg_115_7 (sk20 hs) ?_
  refine go_top (y := nI n) (fz_kp hf (kp_re [2000] fi) rfl rfl rfl).2 ?_
  refine pg_115_10 (fun hc => absurd hc g1) (fun _ => ?_)
  refine pg_115_13 ?_
  refine pg_115_14 ?_
  refine pg_115_18 (sk20 hs) ?_
  refine pg_115_21 rfl ?_
  refine pg_115_22 (sk20 hs) ?_
  refine go_top (y := (1 : Int32)) (by simp [xm_up]) ?_
  refine pg_115_25 (fun hc => absurd hc (by decide)) (fun _ => ?_)
  refine pg_115_28 ?_
  refine pg_115_29 ?_
  exact go_eq hR.symm (pg_115_38)
theorem ct_115i0 {n : Nat} {E : xm_E} {c : Nat × Nat} {fi : FI} {fl : FL} {r : xm_I → Nat → Option xm_I} {d : Nat} {x : Int32} (hs : sh n E c r) (hf : fz n fi) (g0 : x < 0) : xm_C E (d + 1) true 115 [xm_r (20, 0, 0), xm_i x] (c, fi, fl, r) (.inl (some (xm_i (0 : Int32))), (c, (xm_up fi (20, 0, 0) 0 (1 : Int32)), fl, r)) := by
  have hn := sh_n hs
  suffices key : ∀ R : xm_O, ((.inl (some (xm_i (0 : Int32))), (c, (xm_up fi (20, 0, 0) 0 (1 : Int32)), fl, r)) : xm_O) = R → xm_G E (d + 0) true 115 0 [some (xm_r (20, 0, 0)), some (xm_i x)] [] (c, fi, fl, r) R from go_inr (by decide) (Nat.le_of_ble_eq_true rfl) (key _ rfl)
  intro R hR
  refine pg_115_0 rfl ?_
  refine pg_115_1 rfl ?_
  refine pg_115_2 (fun _ => ?_) (fun hc => absurd g0 hc)
  refine pg_115_13 ?_
  refine pg_115_14 ?_
  refine pg_115_18 (sk20 hs) ?_
  refine pg_115_21 rfl ?_
  refine pg_115_22 (sk20 hs) ?_
  refine go_top (y := (1 : Int32)) (by simp [xm_up]) ?_
  refine pg_115_25 (fun hc => absurd hc (by decide)) (fun _ => ?_)
  refine pg_115_28 ?_
  refine pg_115_29 ?_
  exact go_eq hR.symm (pg_115_38)
theorem ct_115i1 {n : Nat} {E : xm_E} {c : Nat × Nat} {fi : FI} {fl : FL} {r : xm_I → Nat → Option xm_I} {d : Nat} {x : Int32} (hs : sh n E c r) (hf : fz n fi) (g0 : ¬ x < 0) (g1 : ¬ x ≤ (nI n)) : xm_C E (d + 1) true 115 [xm_r (20, 0, 0), xm_i x] (c, fi, fl, r) (.inl (some (xm_i (0 : Int32))), (c, (xm_up fi (20, 0, 0) 0 (1 : Int32)), fl, r)) := by
  have hn := sh_n hs
  suffices key : ∀ R : xm_O, ((.inl (some (xm_i (0 : Int32))), (c, (xm_up fi (20, 0, 0) 0 (1 : Int32)), fl, r)) : xm_O) = R → xm_G E (d + 0) true 115 0 [some (xm_r (20, 0, 0)), some (xm_i x)] [] (c, fi, fl, r) R from go_inr (by decide) (Nat.le_of_ble_eq_true rfl) (key _ rfl)
  intro R hR
  refine pg_115_0 rfl ?_
  refine pg_115_1 rfl ?_
  refine pg_115_2 (fun hc => absurd hc g0) (fun _ => ?_)
  refine pg_115_5 rfl ?_
  refine pg_115_6 rfl ?_
  refine pg_115_7 (sk20 hs) ?_
  refine go_top (y := nI n) (fz_kp hf (kp_re [2000] fi) rfl rfl rfl).2 ?_
  refine pg_115_10 (fun hc => absurd hc g1) (fun _ => ?_)
  refine pg_115_13 ?_
  refine pg_115_14 ?_
  refine pg_115_18 (sk20 hs) ?_
  refine pg_115_21 rfl ?_
  refine pg_115_22 (sk20 hs) ?_
  refine go_top (y := (1 : Int32)) (by simp [xm_up]) ?_
  refine pg_115_25 (fun hc => absurd hc (by decide)) (fun _ => ?_)
  refine pg_115_28 ?_
  refine pg_115_29 ?_
  exact go_eq hR.symm (pg_115_38)
theorem ct_116l0 {n : Nat} {E : xm_E} {c : Nat × Nat} {fi : FI} {fl : FL} {r : xm_I → Nat → Option xm_I} {d : Nat} {x : Int32} {y : Int32} {z : Int32} {w : Int32} (hs : sh n E c r) (g0 : x < 0) : xm_C E (d + 3) true 116 [xm_r (20, 0, 0), xm_i x, xm_i y, xm_i z, xm_i w] (c, fi, fl, r) (.inl (some (xm_l (0 : Int64))), (c, (xm_up fi (20, 0, 0) 0 (1 : Int32)), fl, r)) := by
  have hn := sh_n hs
  suffices key : ∀ R : xm_O, ((.inl (some (xm_l (0 : Int64))), (c, (xm_up fi (20, 0, 0) 0 (1 : Int32)), fl, r)) : xm_O) = R → xm_G E (d + 2) true 116 0 [some (xm_r (20, 0, 0)), some (xm_i x), some (xm_i y), some (xm_i z), some (xm_i w)] [] (c, fi, fl, r) R from go_inr (by decide) (Nat.le_of_ble_eq_true rfl) (key _ rfl)
  intro R hR
  refine pg_116_0 rfl ?_
  refine pg_116_1 rfl ?_
  refine pg_116_2 (fun _ => ?_) (fun hc => absurd g0 hc)
  refine pg_116_32 ?_
  refine pg_116_33 ?_
  refine pg_116_37 (sk20 hs) ?_
  refine pg_116_40 rfl ?_
  refine pg_116_41 (sk20 hs) ?_
  refine go_top (y := (1 : Int32)) (by simp [xm_up]) ?_
  refine pg_116_44 (fun hc => absurd hc (by decide)) (fun _ => ?_)
  refine pg_116_47 ?_
  refine pg_116_48 ?_
  exact go_eq hR.symm (pg_116_59)
theorem ct_116l1 {n : Nat} {E : xm_E} {c : Nat × Nat} {fi : FI} {fl : FL} {r : xm_I → Nat → Option xm_I} {d : Nat} {x : Int32} {y : Int32} {z : Int32} {w : Int32} (hs : sh n E c r) (g0 : ¬ x < 0) (g1 : (15 : Int32) < x) : xm_C E (d + 3) true 116 [xm_r (20, 0, 0), xm_i x, xm_i y, xm_i z, xm_i w] (c, fi, fl, r) (.inl (some (xm_l (0 : Int64))), (c, (xm_up fi (20, 0, 0) 0 (1 : Int32)), fl, r)) := by
  have hn := sh_n hs
  suffices key : ∀ R : xm_O, ((.inl (some (xm_l (0 : Int64))), (c, (xm_up fi (20, 0, 0) 0 (1 : Int32)), fl, r)) : xm_O) = R → xm_G E (d + 2) true 116 0 [some (xm_r (20, 0, 0)), some (xm_i x), some (xm_i y), some (xm_i z), some (xm_i w)] [] (c, fi, fl, r) R from go_inr (by decide) (Nat.le_of_ble_eq_true rfl) (key _ rfl)
  intro R hR
  refine pg_116_0 rfl ?_
  refine pg_116_1 rfl ?_
  refine pg_116_2 (fun hc => absurd hc g0) (fun _ => ?_)
  refine pg_116_5 rfl ?_
  refine pg_116_6 ?_
  refine pg_116_8 (fun _ => ?_) (fun hc => absurd g1 hc)
  refine pg_116_32 ?_
  refine pg_116_33 ?_
  refine pg_116_37 (sk20 hs) ?_
  refine pg_116_40 rfl ?_
  refine pg_116_41 (sk20 hs) ?_
  refine go_top (y := (1 : Int32)) (by simp [xm_up]) ?_
  refine pg_116_44 (fun hc => absurd hc (by decide)) (fun _ => ?_)
  refine pg_116_47 ?_
  refine pg_116_48 ?_
  exact go_eq hR.symm (pg_116_59)
theorem ct_116l2 {n : Nat} {E : xm_E} {c : Nat × Nat} {fi : FI} {fl : FL} {r : xm_I → Nat → Option xm_I} {d : Nat} {x : Int32} {y : Int32} {z : Int32} {w : Int32} (hs : sh n E c r) (g0 : ¬ x < 0) (g1 : ¬ (15 : Int32) < x) (g2 : y < 0) : xm_C E (d + 3) true 116 [xm_r (20, 0, 0), xm_i x, xm_i y, xm_i z, xm_i w] (c, fi, fl, r) (.inl (some (xm_l (0 : Int64))), (c, (xm_up fi (20, 0, 0) 0 (1 : Int32)), fl, r)) := by
  have hn := sh_n hs
  suffices key : ∀ R : xm_O, ((.inl (some (xm_l (0 : Int64))), (c, (xm_up fi (20, 0, 0) 0 (1 : Int32)), fl, r)) : xm_O) = R → xm_G E (d + 2) true 116 0 [some (xm_r (20, 0, 0)), some (xm_i x), some (xm_i y), some (xm_i z), some (xm_i w)] [] (c, fi, fl, r) R from go_inr (by decide) (Nat.le_of_ble_eq_true rfl) (key _ rfl)
  intro R hR
  refine pg_116_0 rfl ?_
  refine pg_116_1 rfl ?_
  refine pg_116_2 (fun hc => absurd hc g0) (fun _ => ?_)
  refine pg_116_5 rfl ?_
  refine pg_116_6 ?_
  refine pg_116_8 (fun hc => absurd hc g1) (fun _ => ?_)
  refine pg_116_11 rfl ?_
  refine pg_116_12 (fun _ => ?_) (fun hc => absurd g2 hc)
  refine pg_116_32 ?_
  refine pg_116_33 ?_
  refine pg_116_37 (sk20 hs) ?_
  refine pg_116_40 rfl ?_
  refine pg_116_41 (sk20 hs) ?_
  refine go_top (y := (1 : Int32)) (by simp [xm_up]) ?_
  refine pg_116_44 (fun hc => absurd hc (by decide)) (fun _ => ?_)
  refine pg_116_47 ?_
  refine pg_116_48 ?_
  exact go_eq hR.symm (pg_116_59)
theorem ct_116l3 {n : Nat} {E : xm_E} {c : Nat × Nat} {fi : FI} {fl : FL} {r : xm_I → Nat → Option xm_I} {d : Nat} {x : Int32} {y : Int32} {z : Int32} {w : Int32} (hs : sh n E c r) (g0 : ¬ x < 0) (g1 : ¬ (15 : Int32) < x) (g2 : ¬ y < 0) (g3 : (15 : Int32) < y) : xm_C E (d + 3) true 116 [xm_r (20, 0, 0), xm_i x, xm_i y, xm_i z, xm_i w] (c, fi, fl, r) (.inl (some (xm_l (0 : Int64))), (c, (xm_up fi (20, 0, 0) 0 (1 : Int32)), fl, r)) := by
  have hn := sh_n hs
  suffices key : ∀ R : xm_O, ((.inl (some (xm_l (0 : Int64))), (c, (xm_up fi (20, 0, 0) 0 (1 : Int32)), fl, r)) : xm_O) = R → xm_G E (d + 2) true 116 0 [some (xm_r (20, 0, 0)), some (xm_i x), some (xm_i y), some (xm_i z), some (xm_i w)] [] (c, fi, fl, r) R from go_inr (by decide) (Nat.le_of_ble_eq_true rfl) (key _ rfl)
  intro R hR
  refine pg_116_0 rfl ?_
  refine pg_116_1 rfl ?_
  refine pg_116_2 (fun hc => absurd hc g0) (fun _ => ?_)
  refine pg_116_5 rfl ?_
  refine pg_116_6 ?_
  refine pg_116_8 (fun hc => absurd hc g1) (fun _ => ?_)
  refine pg_116_11 rfl ?_
  refine pg_116_12 (fun hc => absurd hc g2) (fun _ => ?_)
  refine pg_116_15 rfl ?_
  refine pg_116_16 ?_
  refine pg_116_18 (fun _ => ?_) (fun hc => absurd g3 hc)
  refine pg_116_32 ?_
  refine pg_116_33 ?_
  refine pg_116_37 (sk20 hs) ?_
  refine pg_116_40 rfl ?_
  refine pg_116_41 (sk20 hs) ?_
  refine go_top (y := (1 : Int32)) (by simp [xm_up]) ?_
  refine pg_116_44 (fun hc => absurd hc (by decide)) (fun _ => ?_)
  refine pg_116_47 ?_
  refine pg_116_48 ?_
  exact go_eq hR.symm (pg_116_59)
theorem ct_116l4 {n : Nat} {E : xm_E} {c : Nat × Nat} {fi : FI} {fl : FL} {r : xm_I → Nat → Option xm_I} {d : Nat} {x : Int32} {y : Int32} {z : Int32} {w : Int32} (hs : sh n E c r) (g0 : ¬ x < 0) (g1 : ¬ (15 : Int32) < x) (g2 : ¬ y < 0) (g3 : ¬ (15 : Int32) < y) (g4 : z < 0) : xm_C E (d + 3) true 116 [xm_r (20, 0, 0), xm_i x, xm_i y, xm_i z, xm_i w] (c, fi, fl, r) (.inl (some (xm_l (0 : Int64))), (c, (xm_up fi (20, 0, 0) 0 (1 : Int32)), fl, r)) := by
  have hn := sh_n hs
  suffices key : ∀ R : xm_O, ((.inl (some (xm_l (0 : Int64))), (c, (xm_up fi (20, 0, 0) 0 (1 : Int32)), fl, r)) : xm_O) = R → xm_G E (d + 2) true 116 0 [some (xm_r (20, 0, 0)), some (xm_i x), some (xm_i y), some (xm_i z), some (xm_i w)] [] (c, fi, fl, r) R from go_inr (by decide) (Nat.le_of_ble_eq_true rfl) (key _ rfl)
  intro R hR
  refine pg_116_0 rfl ?_
  refine pg_116_1 rfl ?_
  refine pg_116_2 (fun hc => absurd hc g0) (fun _ => ?_)
  refine pg_116_5 rfl ?_
  refine pg_116_6 ?_
  refine pg_116_8 (fun hc => absurd hc g1) (fun _ => ?_)
  refine pg_116_11 rfl ?_
  refine pg_116_12 (fun hc => absurd hc g2) (fun _ => ?_)
  refine pg_116_15 rfl ?_
  refine pg_116_16 ?_
  refine pg_116_18 (fun hc => absurd hc g3) (fun _ => ?_)
  refine pg_116_21 rfl ?_
  refine pg_116_22 (fun _ => ?_) (fun hc => absurd g4 hc)
  refine pg_116_32 ?_
  refine pg_116_33 ?_
  refine pg_116_37 (sk20 hs) ?_
  refine pg_116_40 rfl ?_
  refine pg_116_41 (sk20 hs) ?_
  refine go_top (y := (1 : Int32)) (by simp [xm_up]) ?_
  refine pg_116_44 (fun hc => absurd hc (by decide)) (fun _ => ?_)
  refine pg_116_47 ?_
  refine pg_116_48 ?_
  exact go_eq hR.symm (pg_116_59)
theorem ct_116l5 {n : Nat} {E : xm_E} {c : Nat × Nat} {fi : FI} {fl : FL} {r : xm_I → Nat → Option xm_I} {d : Nat} {x : Int32} {y : Int32} {z : Int32} {w : Int32} (hs : sh n E c r) (g0 : ¬ x < 0) (g1 : ¬ (15 : Int32) < x) (g2 : ¬ y < 0) (g3 : ¬ (15 : Int32) < y) (g4 : ¬ z < 0) (g5 : z ≤ (255 : Int32)) : xm_C E (d + 3) true 116 [xm_r (20, 0, 0), xm_i x, xm_i y, xm_i z, xm_i w] (c, fi, fl, r) (.inl (some (xm_l (sp_73 x y z w))), (c, (xm_up fi (20, 0, 0) 0 (0 : Int32)), fl, r)) := by
  have hn := sh_n hs
  suffices key : ∀ R : xm_O, ((.inl (some (xm_l (sp_73 x y z w))), (c, (xm_up fi (20, 0, 0) 0 (0 : Int32)), fl, r)) : xm_O) = R → xm_G E (d + 2) true 116 0 [some (xm_r (20, 0, 0)), some (xm_i x), some (xm_i y), some (xm_i z), some (xm_i w)] [] (c, fi, fl, r) R from go_inr (by decide) (Nat.le_of_ble_eq_true rfl) (key _ rfl)
  intro R hR
  refine pg_116_0 rfl ?_
  refine pg_116_1 rfl ?_
  refine pg_116_2 (fun hc => absurd hc g0) (fun _ => ?_)
  refine pg_116_5 rfl ?_
  refine pg_116_6 ?_
  refine pg_116_8 (fun hc => absurd hc g1) (fun _ => ?_)
  refine pg_116_11 rfl ?_
  refine pg_116_12 (fun hc => absurd hc g2) (fun _ => ?_)
  refine pg_116_15 rfl ?_
  refine pg_116_16 ?_
  refine pg_116_18 (fun hc => absurd hc g3) (fun _ => ?_)
  refine pg_116_21 rfl ?_
  refine pg_116_22 (fun hc => absurd hc g4) (fun _ => ?_)
  refine pg_116_25 rfl ?_
  refine pg_116_26 ?_
  refine pg_116_29 (fun _ => ?_) (fun hc => absurd g5 hc)
  refine pg_116_36 ?_
  refine pg_116_37 (sk20 hs) ?_
  refine pg_116_40 rfl ?_
  refine pg_116_41 (sk20 hs) ?_
  refine go_top (y := (0 : Int32)) (by simp [xm_up]) ?_
  refine pg_116_44 (fun _ => ?_) (fun hc => absurd (by decide) hc)
  refine pg_116_51 rfl ?_
  refine pg_116_52 rfl ?_
  refine pg_116_53 rfl ?_
  refine pg_116_54 rfl ?_
  refine pg_116_56 (Nat.le_of_ble_eq_true rfl) (ct_73 (s := x) (q := y) (o := z) (x := w)) ?_
  exact go_eq hR.symm (pg_116_59)
theorem ct_116l6 {n : Nat} {E : xm_E} {c : Nat × Nat} {fi : FI} {fl : FL} {r : xm_I → Nat → Option xm_I} {d : Nat} {x : Int32} {y : Int32} {z : Int32} {w : Int32} (hs : sh n E c r) (g0 : ¬ x < 0) (g1 : ¬ (15 : Int32) < x) (g2 : ¬ y < 0) (g3 : ¬ (15 : Int32) < y) (g4 : ¬ z < 0) (g5 : ¬ z ≤ (255 : Int32)) : xm_C E (d + 3) true 116 [xm_r (20, 0, 0), xm_i x, xm_i y, xm_i z, xm_i w] (c, fi, fl, r) (.inl (some (xm_l (0 : Int64))), (c, (xm_up fi (20, 0, 0) 0 (1 : Int32)), fl, r)) := by
  have hn := sh_n hs
  suffices key : ∀ R : xm_O, ((.inl (some (xm_l (0 : Int64))), (c, (xm_up fi (20, 0, 0) 0 (1 : Int32)), fl, r)) : xm_O) = R → xm_G E (d + 2) true 116 0 [some (xm_r (20, 0, 0)), some (xm_i x), some (xm_i y), some (xm_i z), some (xm_i w)] [] (c, fi, fl, r) R from go_inr (by decide) (Nat.le_of_ble_eq_true rfl) (key _ rfl)
  intro R hR
  refine pg_116_0 rfl ?_
  refine pg_116_1 rfl ?_
  refine pg_116_2 (fun hc => absurd hc g0) (fun _ => ?_)
  refine pg_116_5 rfl ?_
  refine pg_116_6 ?_
  refine pg_116_8 (fun hc => absurd hc g1) (fun _ => ?_)
  refine pg_116_11 rfl ?_
  refine pg_116_12 (fun hc => absurd hc g2) (fun _ => ?_)
  refine pg_116_15 rfl ?_
  refine pg_116_16 ?_
  refine pg_116_18 (fun hc => absurd hc g3) (fun _ => ?_)
  refine pg_116_21 rfl ?_
  refine pg_116_22 (fun hc => absurd hc g4) (fun _ => ?_)
  refine pg_116_25 rfl ?_
  refine pg_116_26 ?_
  refine pg_116_29 (fun hc => absurd hc g5) (fun _ => ?_)
  refine pg_116_32 ?_
  refine pg_116_33 ?_
  refine pg_116_37 (sk20 hs) ?_
  refine pg_116_40 rfl ?_
  refine pg_116_41 (sk20 hs) ?_
  refine go_top (y := (1 : Int32)) (by simp [xm_up]) ?_
  refine pg_116_44 (fun hc => absurd hc (by decide)) (fun _ => ?_)
  refine pg_116_47 ?_
  refine pg_116_48 ?_
  exact go_eq hR.symm (pg_116_59)
theorem ct_117l0 {n : Nat} {E : xm_E} {c : Nat × Nat} {fi : FI} {fl : FL} {r : xm_I → Nat → Option xm_I} {d : Nat} {f : Int64} (hs : sh n E c r) : xm_C E (d + 3) true 117 [xm_r (20, 0, 0), xm_l f] (c, fi, fl, r) (.inl (some (xm_i (bI (sp_77 f)))), (c, (xm_up fi (20, 0, 0) 0 (0 : Int32)), fl, r)) := by
  have hn := sh_n hs
  suffices key : ∀ R : xm_O, ((.inl (some (xm_i (bI (sp_77 f)))), (c, (xm_up fi (20, 0, 0) 0 (0 : Int32)), fl, r)) : xm_O) = R → xm_G E (d + 2) true 117 0 [some (xm_r (20, 0, 0)), some (xm_l f), none] [] (c, fi, fl, r) R from go_inr (by decide) (Nat.le_of_ble_eq_true rfl) (key _ rfl)
  intro R hR
  refine pg_117_0 rfl ?_
  refine pg_117_1 ?_
  refine pg_117_2 (sk20 hs) ?_
  refine pg_117_5 rfl ?_
  refine pg_117_6 (Nat.le_of_ble_eq_true rfl) (ct_77 (f := f)) ?_
  exact go_eq hR.symm (pg_117_9 (bI_01 _))
-- 111: Model.same
def sp_111_54 (n : Nat) (fi : FI) (p : Nat) (o : Nat) (i1 : Nat) (s1 : Bool) : Bool := if (bI s1) = 0 then false else (if (sp_93 n (xm_up fi (20, 0, 0) 0 (0 : Int32)) p i1) = (sp_93 n (xm_up fi (20, 0, 0) 0 (0 : Int32)) o i1) then true else false)
def sp_111 (n : Nat) (fi : FI) (p : Nat) (o : Nat) : Bool × FI := if (fi (21, 11, 0) p) = (fi (21, 11, 0) o) then (if (fi (21, 11, 0) p) = 0 then (((lq_it 4 (sp_111_54 n fi p o) true), (xm_up fi (20, 0, 0) 0 (0 : Int32)))) else ((true, (xm_up fi (20, 0, 0) 0 (0 : Int32))))) else ((false, (xm_up fi (20, 0, 0) 0 (0 : Int32))))
theorem kp_sp_111 (n : Nat) (fi : FI) (p : Nat) (o : Nat) : kp [2000] fi ((sp_111 n fi p o).2) := by
  unfold sp_111
  rcases Classical.em ((fi (21, 11, 0) p) = (fi (21, 11, 0) o)) with hc | hc
  · (try rw [if_pos hc])
    rcases Classical.em ((fi (21, 11, 0) p) = 0) with hc | hc
    · (try rw [if_pos hc])
      exact (kp_up (kp_re [2000] fi) rfl)
    · (try rw [if_neg hc])
      exact (kp_up (kp_re [2000] fi) rfl)
  · (try rw [if_neg hc])
    exact (kp_up (kp_re [2000] fi) rfl)
set_option maxRecDepth 4000 in
theorem ct_111 {n : Nat} {E : xm_E} {c : Nat × Nat} {fi : FI} {fl : FL} {r : xm_I → Nat → Option xm_I} {d : Nat} {p : Nat} {o : Nat} (hs : sh n E c r) (hp : p < n) (ho : o < n) (hf : fz n fi) : xm_C E (d + 2) true 111 [xm_r (20, 0, 0), xm_i (nI p), xm_i (nI o)] (c, fi, fl, r) (.inl (some (xm_i (bI ((sp_111 n fi p o).1)))), (c, (sp_111 n fi p o).2, fl, r)) := by
  have hn := sh_n hs
  suffices key : ∀ R : xm_O, ((.inl (some (xm_i (bI ((sp_111 n fi p o).1)))), (c, (sp_111 n fi p o).2, fl, r)) : xm_O) = R → xm_G E (d + 1) true 111 0 [some (xm_r (20, 0, 0)), some (xm_i (nI p)), some (xm_i (nI o)), none, none] [] (c, fi, fl, r) R from go_inr (by decide) (Nat.le_of_ble_eq_true rfl) (key _ rfl)
  intro R hR
  refine pg_111_0 rfl ?_
  refine pg_111_1 rfl ?_
  refine pg_111_2 rfl ?_
  refine pg_111_3 (sk20 hs) (Nat.le_of_ble_eq_true rfl) (ct_99 (x := (nI p)) hs (fz_kp hf (kp_re [2000] fi) rfl rfl rfl)) ?_
  refine pg_111_6 (fun hc => absurd (nno_ok (n := n) (p := p) (by omega) (by omega)) hc) (fun _ => ?_)
  refine pg_111_9 rfl ?_
  refine pg_111_10 rfl ?_
  refine pg_111_11 (sk20 hs) (Nat.le_of_ble_eq_true rfl) (ct_99 (x := (nI o)) hs (fz_kp hf (kp_re [2000] fi) rfl rfl rfl)) ?_
  refine pg_111_14 (fun _ => ?_) (fun hc => absurd (nno_ok (n := n) (p := o) (by omega) (by omega)) hc)
  refine pg_111_21 ?_
  refine pg_111_22 (sk20 hs) ?_
  refine pg_111_25 rfl ?_
  refine pg_111_26 (sk20 hs) ?_
  refine go_top (y := (0 : Int32)) (by simp [xm_up]) ?_
  refine pg_111_29 (fun hc => absurd hc (by decide)) (fun _ => ?_)
  refine pg_111_32 rfl ?_
  refine pg_111_33 (sk20 hs) (sr20_11 hs) ?_
  refine pg_111_36 rfl ?_
  refine pg_111_37 (sk21_11 hs) (i := p) rfl (by omega) (by omega) ?_
  refine go_top (y := (fi (21, 11, 0) p)) (by simp [xm_up]) ?_
  refine pg_111_38 rfl ?_
  refine pg_111_39 (sk20 hs) (sr20_11 hs) ?_
  refine pg_111_42 rfl ?_
  refine pg_111_43 (sk21_11 hs) (i := o) rfl (by omega) (by omega) ?_
  refine go_top (y := (fi (21, 11, 0) o)) (by simp [xm_up]) ?_
  refine pg_111_44 (fun hc1 => ?_) (fun hc2 => ?_)
  · refine pg_111_49 ?_
    refine pg_111_50 (lv' := [some (xm_r (20, 0, 0)), some (xm_i (nI p)), some (xm_i (nI o)), some (xm_i (1 : Int32)), none]) rfl ?_
    refine pg_111_51 ?_
    refine pg_111_52 (lv' := [some (xm_r (20, 0, 0)), some (xm_i (nI p)), some (xm_i (nI o)), some (xm_i (1 : Int32)), some (xm_i (0 : Int32))]) rfl ?_
    rcases Classical.em ((fi (21, 11, 0) p) = 0) with hc3 | hc3
    · refine (lq_loop (N := 4) (f := sp_111_54 n fi p o) (s0 := true) (P := fun i1 s1 => xm_G E (d + 1) true 111 54 [some (xm_r (20, 0, 0)), some (xm_i (nI p)), some (xm_i (nI o)), some (xm_i (bI s1)), some (xm_i (nI i1))] [] (c, (xm_up fi (20, 0, 0) 0 (0 : Int32)), fl, r) R) ?_ ?_)
      · intro i1 s1 hi1 K1
        show xm_G E (d + 1) true 111 54 [some (xm_r (20, 0, 0)), some (xm_i (nI p)), some (xm_i (nI o)), some (xm_i (bI s1)), some (xm_i (nI i1))] [] (c, (xm_up fi (20, 0, 0) 0 (0 : Int32)), fl, r) R
        refine pg_111_54 rfl ?_
        refine pg_111_56 ?_
        refine pg_111_57 (fun hc => absurd hc (nx_nle (a := i1) (b := 4) rfl (rfl : (4 : Int32) = nI 4) (by omega) (by omega))) (fun _ => ?_)
        refine pg_111_60 rfl ?_
        refine pg_111_61 (sk20 hs) (sr20_11 hs) ?_
        refine pg_111_64 rfl ?_
        refine pg_111_65 (sk21_11 hs) (i := p) rfl (by omega) (by omega) ?_
        refine go_top (y := (fi (21, 11, 0) p)) (by simp [xm_up]) ?_
        refine pg_111_66 (fun hc => absurd hc3 hc) (fun _ => ?_)
        refine pg_111_69 rfl ?_
        suffices KJ : xm_G E (d + 1) true 111 95 [some (xm_r (20, 0, 0)), some (xm_i (nI p)), some (xm_i (nI o)), some (xm_i (bI s1)), some (xm_i (nI i1))] [xm_i (bI (if (bI s1) = 0 then false else (if (sp_93 n (xm_up fi (20, 0, 0) 0 (0 : Int32)) p i1) = (sp_93 n (xm_up fi (20, 0, 0) 0 (0 : Int32)) o i1) then true else false)))] (c, (xm_up fi (20, 0, 0) 0 (0 : Int32)), fl, r) R by
          refine pg_111_70 (fun hc4 => ?_) (fun hc5 => ?_)
          · refine pg_111_94 ?_
            repeat rw [if_pos hc4] at KJ
            repeat rw [if_pos hc4]
            exact KJ
          · refine pg_111_73 rfl ?_
            refine pg_111_74 rfl ?_
            refine pg_111_75 rfl ?_
            refine pg_111_77 (sk20 hs) (Nat.le_of_ble_eq_true rfl) (ct_93 (p := p) (o := i1) hs (by omega) (fz_kp hf (kp_up (kp_re [2000] fi) rfl) rfl rfl rfl)) ?_
            refine pg_111_80 rfl ?_
            refine pg_111_81 rfl ?_
            refine pg_111_82 rfl ?_
            refine pg_111_84 (sk20 hs) (Nat.le_of_ble_eq_true rfl) (ct_93 (p := o) (o := i1) hs (by omega) (fz_kp hf (kp_up (kp_re [2000] fi) rfl) rfl rfl rfl)) ?_
            refine pg_111_87 (fun hc6 => ?_) (fun hc7 => ?_)
            · refine pg_111_94 ?_
              repeat rw [if_neg hc5] at KJ
              repeat rw [if_neg hc6] at KJ
              repeat rw [if_neg hc5]
              repeat rw [if_neg hc6]
              exact KJ
            · refine pg_111_90 ?_
              refine pg_111_91 ?_
              repeat rw [if_neg hc5] at KJ
              repeat rw [if_pos hc7] at KJ
              repeat rw [if_neg hc5]
              repeat rw [if_pos hc7]
              exact KJ
        refine pg_111_95 (lv' := [some (xm_r (20, 0, 0)), some (xm_i (nI p)), some (xm_i (nI o)), some (xm_i (bI (if (bI s1) = 0 then false else (if (sp_93 n (xm_up fi (20, 0, 0) 0 (0 : Int32)) p i1) = (sp_93 n (xm_up fi (20, 0, 0) 0 (0 : Int32)) o i1) then true else false)))), some (xm_i (nI i1))]) rfl ?_
        refine pg_111_96 (y := (nI (i1 + 1))) (lv' := [some (xm_r (20, 0, 0)), some (xm_i (nI p)), some (xm_i (nI o)), some (xm_i (bI (if (bI s1) = 0 then false else (if (sp_93 n (xm_up fi (20, 0, 0) 0 (0 : Int32)) p i1) = (sp_93 n (xm_up fi (20, 0, 0) 0 (0 : Int32)) o i1) then true else false)))), some (xm_i (nI (i1 + 1)))]) rfl (nI_1 i1) rfl ?_
        refine pg_111_99 ?_
        exact K1 (if (bI s1) = 0 then false else (if (sp_93 n (xm_up fi (20, 0, 0) 0 (0 : Int32)) p i1) = (sp_93 n (xm_up fi (20, 0, 0) 0 (0 : Int32)) o i1) then true else false)) (by unfold sp_111_54; all_goals rfl)
      · skip
        show xm_G E (d + 1) true 111 54 [some (xm_r (20, 0, 0)), some (xm_i (nI p)), some (xm_i (nI o)), some (xm_i (bI (lq_it 4 (sp_111_54 n fi p o) true))), some (xm_i (nI 4))] [] (c, (xm_up fi (20, 0, 0) 0 (0 : Int32)), fl, r) R
        refine pg_111_54 rfl ?_
        refine pg_111_56 ?_
        refine pg_111_57 (fun _ => ?_) (fun hc => absurd (nx_le (a := 4) (b := 4) rfl (rfl : (4 : Int32) = nI 4) (by omega) (by omega)) hc)
        refine pg_111_102 rfl ?_
        exact go_eq (hR.symm.trans (by unfold sp_111; try rw [if_pos hc1]; try rw [if_pos hc3]; all_goals rfl)) (pg_111_103 (bI_01 _))
    · refine pg_111_54 rfl ?_
      refine pg_111_56 ?_
      refine pg_111_57 (fun hc => absurd hc (by decide)) (fun _ => ?_)
      refine pg_111_60 rfl ?_
      refine pg_111_61 (sk20 hs) (sr20_11 hs) ?_
      refine pg_111_64 rfl ?_
      refine pg_111_65 (sk21_11 hs) (i := p) rfl (by omega) (by omega) ?_
      refine go_top (y := (fi (21, 11, 0) p)) (by simp [xm_up]) ?_
      refine pg_111_66 (fun _ => ?_) (fun hc => absurd hc hc3)
      refine pg_111_102 rfl ?_
      exact go_eq (hR.symm.trans (by unfold sp_111; try rw [if_pos hc1]; try rw [if_neg hc3]; all_goals rfl)) (pg_111_103 (Or.inr rfl))
  · refine pg_111_47 ?_
    exact go_eq (hR.symm.trans (by unfold sp_111; try rw [if_neg hc2]; all_goals rfl)) (pg_111_48 (Or.inl rfl))
